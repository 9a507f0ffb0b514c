section
-- ===== PART A: goes FIRST, ahead of the names: the tables' words, and 'selects' of the private methods out of them =====
/-- a private method of a class that the tables say can be made, by its rows of tables_1 -/
def lw_okq (q : MethodName × Nat) : Prop := (q.1.cls ≠ "java/lang/invoke/MethodHandle" ∧ q.1.cls ≠ "java/lang/invoke/VarHandle") ∧ Cond.instantiable q.1.cls q.2 ∈ tables_1 ∧ Cond.privateMethod q.1 ∈ tables_1 ∧ Cond.instanceMethod q.1 ∈ tables_1
theorem lw_p0 : lw_okq (⟨"StairNews$RuleReader", "readSum", "()V"⟩, 3) := ⟨⟨by decide +kernel, by decide +kernel⟩, List.mem_of_getElem? (i := 280) (by decide +kernel), List.mem_of_getElem? (i := 630) (by decide +kernel), List.mem_of_getElem? (i := 631) (by decide +kernel)⟩
theorem lw_p1 : lw_okq (⟨"StairNews$RuleReader", "readValue", "()V"⟩, 3) := ⟨⟨by decide +kernel, by decide +kernel⟩, List.mem_of_getElem? (i := 280) (by decide +kernel), List.mem_of_getElem? (i := 634) (by decide +kernel), List.mem_of_getElem? (i := 635) (by decide +kernel)⟩
theorem lw_p2 : lw_okq (⟨"StairNews$RuleReader", "readTest", "(I)V"⟩, 3) := ⟨⟨by decide +kernel, by decide +kernel⟩, List.mem_of_getElem? (i := 280) (by decide +kernel), List.mem_of_getElem? (i := 652) (by decide +kernel), List.mem_of_getElem? (i := 653) (by decide +kernel)⟩
theorem lw_p3 : lw_okq (⟨"StairNews$RuleReader", "readFact", "(I)V"⟩, 3) := ⟨⟨by decide +kernel, by decide +kernel⟩, List.mem_of_getElem? (i := 280) (by decide +kernel), List.mem_of_getElem? (i := 656) (by decide +kernel), List.mem_of_getElem? (i := 657) (by decide +kernel)⟩
theorem lw_p4 : lw_okq (⟨"StairNews$RuleReader", "readComparison", "()V"⟩, 3) := ⟨⟨by decide +kernel, by decide +kernel⟩, List.mem_of_getElem? (i := 280) (by decide +kernel), List.mem_of_getElem? (i := 661) (by decide +kernel), List.mem_of_getElem? (i := 662) (by decide +kernel)⟩
theorem lw_p5 : lw_okq (⟨"StairNews", "ruleInForce", "()LStairNews$Rule;"⟩, 9) := ⟨⟨by decide +kernel, by decide +kernel⟩, List.mem_of_getElem? (i := 23) (by decide +kernel), List.mem_of_getElem? (i := 729) (by decide +kernel), List.mem_of_getElem? (i := 730) (by decide +kernel)⟩
theorem lw_p6 : lw_okq (⟨"StairNews$Folk", "startErrands", "(LStairNews$House;)V"⟩, 6) := ⟨⟨by decide +kernel, by decide +kernel⟩, List.mem_of_getElem? (i := 169) (by decide +kernel), List.mem_of_getElem? (i := 747) (by decide +kernel), List.mem_of_getElem? (i := 748) (by decide +kernel)⟩
theorem lw_p7 : lw_okq (⟨"StairNews$Folk", "endsFlight", "(I)Z"⟩, 6) := ⟨⟨by decide +kernel, by decide +kernel⟩, List.mem_of_getElem? (i := 169) (by decide +kernel), List.mem_of_getElem? (i := 760) (by decide +kernel), List.mem_of_getElem? (i := 761) (by decide +kernel)⟩
theorem lw_p8 : lw_okq (⟨"StairNews$Gossip", "tellerOf", "(LStairNews$Lore;II)I"⟩, 6) := ⟨⟨by decide +kernel, by decide +kernel⟩, List.mem_of_getElem? (i := 333) (by decide +kernel), List.mem_of_getElem? (i := 779) (by decide +kernel), List.mem_of_getElem? (i := 780) (by decide +kernel)⟩
theorem lw_p9 : lw_okq (⟨"StairNews$Rule", "compute", "(II[J[J)J"⟩, 5) := ⟨⟨by decide +kernel, by decide +kernel⟩, List.mem_of_getElem? (i := 408) (by decide +kernel), List.mem_of_getElem? (i := 787) (by decide +kernel), List.mem_of_getElem? (i := 788) (by decide +kernel)⟩
theorem lw_p10 : lw_okq (⟨"StairNews$Outlook", "homesOn", "(I)I"⟩, 13) := ⟨⟨by decide +kernel, by decide +kernel⟩, List.mem_of_getElem? (i := 323) (by decide +kernel), List.mem_of_getElem? (i := 874) (by decide +kernel), List.mem_of_getElem? (i := 875) (by decide +kernel)⟩
theorem lw_p11 : lw_okq (⟨"StairNews$Outlook", "noteStart", "(II)V"⟩, 13) := ⟨⟨by decide +kernel, by decide +kernel⟩, List.mem_of_getElem? (i := 323) (by decide +kernel), List.mem_of_getElem? (i := 912) (by decide +kernel), List.mem_of_getElem? (i := 913) (by decide +kernel)⟩
theorem lw_p12 : lw_okq (⟨"StairNews$Outlook", "mostAlike", "(I)I"⟩, 13) := ⟨⟨by decide +kernel, by decide +kernel⟩, List.mem_of_getElem? (i := 323) (by decide +kernel), List.mem_of_getElem? (i := 925) (by decide +kernel), List.mem_of_getElem? (i := 926) (by decide +kernel)⟩
theorem lw_p13 : lw_okq (⟨"StairNews", "flightsTo", "(I)I"⟩, 9) := ⟨⟨by decide +kernel, by decide +kernel⟩, List.mem_of_getElem? (i := 23) (by decide +kernel), List.mem_of_getElem? (i := 951) (by decide +kernel), List.mem_of_getElem? (i := 952) (by decide +kernel)⟩
theorem lw_p14 : lw_okq (⟨"StairNewsModel", "four", "(I)V"⟩, 36) := ⟨⟨by decide +kernel, by decide +kernel⟩, List.mem_of_getElem? (i := 1012) (by decide +kernel), List.mem_of_getElem? (i := 1132) (by decide +kernel), List.mem_of_getElem? (i := 1133) (by decide +kernel)⟩
theorem lw_p15 : lw_okq (⟨"StairNewsModel", "readsAll", "()Z"⟩, 36) := ⟨⟨by decide +kernel, by decide +kernel⟩, List.mem_of_getElem? (i := 1012) (by decide +kernel), List.mem_of_getElem? (i := 1144) (by decide +kernel), List.mem_of_getElem? (i := 1145) (by decide +kernel)⟩
def lw_privs_1 : List (MethodName × Nat) := [(⟨"StairNews$RuleReader", "readSum", "()V"⟩, 3), (⟨"StairNews$RuleReader", "readValue", "()V"⟩, 3), (⟨"StairNews$RuleReader", "readTest", "(I)V"⟩, 3), (⟨"StairNews$RuleReader", "readFact", "(I)V"⟩, 3), (⟨"StairNews$RuleReader", "readComparison", "()V"⟩, 3), (⟨"StairNews", "ruleInForce", "()LStairNews$Rule;"⟩, 9), (⟨"StairNews$Folk", "startErrands", "(LStairNews$House;)V"⟩, 6), (⟨"StairNews$Folk", "endsFlight", "(I)Z"⟩, 6), (⟨"StairNews$Gossip", "tellerOf", "(LStairNews$Lore;II)I"⟩, 6), (⟨"StairNews$Rule", "compute", "(II[J[J)J"⟩, 5), (⟨"StairNews$Outlook", "homesOn", "(I)I"⟩, 13), (⟨"StairNews$Outlook", "noteStart", "(II)V"⟩, 13), (⟨"StairNews$Outlook", "mostAlike", "(I)I"⟩, 13), (⟨"StairNews", "flightsTo", "(I)I"⟩, 9), (⟨"StairNewsModel", "four", "(I)V"⟩, 36), (⟨"StairNewsModel", "readsAll", "()Z"⟩, 36)]
theorem lw_r1 : ∀ q ∈ lw_privs_1, lw_okq q := List.forall_mem_cons.mpr ⟨lw_p0, List.forall_mem_cons.mpr ⟨lw_p1, List.forall_mem_cons.mpr ⟨lw_p2, List.forall_mem_cons.mpr ⟨lw_p3, List.forall_mem_cons.mpr ⟨lw_p4, List.forall_mem_cons.mpr ⟨lw_p5, List.forall_mem_cons.mpr ⟨lw_p6, List.forall_mem_cons.mpr ⟨lw_p7, List.forall_mem_cons.mpr ⟨lw_p8, List.forall_mem_cons.mpr ⟨lw_p9, List.forall_mem_cons.mpr ⟨lw_p10, List.forall_mem_cons.mpr ⟨lw_p11, List.forall_mem_cons.mpr ⟨lw_p12, List.forall_mem_cons.mpr ⟨lw_p13, List.forall_mem_cons.mpr ⟨lw_p14, List.forall_mem_cons.mpr ⟨lw_p15, fun _ h => absurd h List.not_mem_nil⟩⟩⟩⟩⟩⟩⟩⟩⟩⟩⟩⟩⟩⟩⟩⟩
theorem lw_p16 : lw_okq (⟨"StairNewsModel", "clauseHere", "()Z"⟩, 36) := ⟨⟨by decide +kernel, by decide +kernel⟩, List.mem_of_getElem? (i := 1012) (by decide +kernel), List.mem_of_getElem? (i := 1148) (by decide +kernel), List.mem_of_getElem? (i := 1149) (by decide +kernel)⟩
theorem lw_p17 : lw_okq (⟨"StairNewsModel", "see", "()I"⟩, 36) := ⟨⟨by decide +kernel, by decide +kernel⟩, List.mem_of_getElem? (i := 1012) (by decide +kernel), List.mem_of_getElem? (i := 1152) (by decide +kernel), List.mem_of_getElem? (i := 1153) (by decide +kernel)⟩
theorem lw_p18 : lw_okq (⟨"StairNewsModel", "isHouseWord", "()Z"⟩, 36) := ⟨⟨by decide +kernel, by decide +kernel⟩, List.mem_of_getElem? (i := 1012) (by decide +kernel), List.mem_of_getElem? (i := 1156) (by decide +kernel), List.mem_of_getElem? (i := 1157) (by decide +kernel)⟩
theorem lw_p19 : lw_okq (⟨"StairNewsModel", "isWord", "(J)Z"⟩, 36) := ⟨⟨by decide +kernel, by decide +kernel⟩, List.mem_of_getElem? (i := 1012) (by decide +kernel), List.mem_of_getElem? (i := 1161) (by decide +kernel), List.mem_of_getElem? (i := 1162) (by decide +kernel)⟩
theorem lw_p20 : lw_okq (⟨"StairNewsModel", "isLetter", "(I)Z"⟩, 36) := ⟨⟨by decide +kernel, by decide +kernel⟩, List.mem_of_getElem? (i := 1012) (by decide +kernel), List.mem_of_getElem? (i := 1165) (by decide +kernel), List.mem_of_getElem? (i := 1166) (by decide +kernel)⟩
theorem lw_p21 : lw_okq (⟨"StairNewsModel", "fails", "(II)Z"⟩, 36) := ⟨⟨by decide +kernel, by decide +kernel⟩, List.mem_of_getElem? (i := 1012) (by decide +kernel), List.mem_of_getElem? (i := 1180) (by decide +kernel), List.mem_of_getElem? (i := 1181) (by decide +kernel)⟩
theorem lw_p22 : lw_okq (⟨"StairNewsModel", "houseLineHere", "(I)Z"⟩, 36) := ⟨⟨by decide +kernel, by decide +kernel⟩, List.mem_of_getElem? (i := 1012) (by decide +kernel), List.mem_of_getElem? (i := 1184) (by decide +kernel), List.mem_of_getElem? (i := 1185) (by decide +kernel)⟩
theorem lw_p23 : lw_okq (⟨"StairNewsModel", "isHouseHere", "(I)Z"⟩, 36) := ⟨⟨by decide +kernel, by decide +kernel⟩, List.mem_of_getElem? (i := 1012) (by decide +kernel), List.mem_of_getElem? (i := 1188) (by decide +kernel), List.mem_of_getElem? (i := 1189) (by decide +kernel)⟩
theorem lw_p24 : lw_okq (⟨"StairNewsModel", "passWord", "()V"⟩, 36) := ⟨⟨by decide +kernel, by decide +kernel⟩, List.mem_of_getElem? (i := 1012) (by decide +kernel), List.mem_of_getElem? (i := 1192) (by decide +kernel), List.mem_of_getElem? (i := 1193) (by decide +kernel)⟩
theorem lw_p25 : lw_okq (⟨"StairNewsModel", "cellHere", "(III)Z"⟩, 36) := ⟨⟨by decide +kernel, by decide +kernel⟩, List.mem_of_getElem? (i := 1012) (by decide +kernel), List.mem_of_getElem? (i := 1196) (by decide +kernel), List.mem_of_getElem? (i := 1197) (by decide +kernel)⟩
theorem lw_p26 : lw_okq (⟨"StairNewsModel", "numberHere", "(II)Z"⟩, 36) := ⟨⟨by decide +kernel, by decide +kernel⟩, List.mem_of_getElem? (i := 1012) (by decide +kernel), List.mem_of_getElem? (i := 1200) (by decide +kernel), List.mem_of_getElem? (i := 1201) (by decide +kernel)⟩
theorem lw_p27 : lw_okq (⟨"StairNewsModel", "isDigit", "(I)Z"⟩, 36) := ⟨⟨by decide +kernel, by decide +kernel⟩, List.mem_of_getElem? (i := 1012) (by decide +kernel), List.mem_of_getElem? (i := 1204) (by decide +kernel), List.mem_of_getElem? (i := 1205) (by decide +kernel)⟩
theorem lw_p28 : lw_okq (⟨"StairNewsModel", "isPersonHere", "(I)Z"⟩, 36) := ⟨⟨by decide +kernel, by decide +kernel⟩, List.mem_of_getElem? (i := 1012) (by decide +kernel), List.mem_of_getElem? (i := 1211) (by decide +kernel), List.mem_of_getElem? (i := 1212) (by decide +kernel)⟩
theorem lw_p29 : lw_okq (⟨"StairNewsModel", "isErrandHere", "(I)Z"⟩, 36) := ⟨⟨by decide +kernel, by decide +kernel⟩, List.mem_of_getElem? (i := 1012) (by decide +kernel), List.mem_of_getElem? (i := 1215) (by decide +kernel), List.mem_of_getElem? (i := 1216) (by decide +kernel)⟩
theorem lw_p30 : lw_okq (⟨"StairNewsModel", "areHatesHere", "(I)Z"⟩, 36) := ⟨⟨by decide +kernel, by decide +kernel⟩, List.mem_of_getElem? (i := 1012) (by decide +kernel), List.mem_of_getElem? (i := 1219) (by decide +kernel), List.mem_of_getElem? (i := 1220) (by decide +kernel)⟩
theorem lw_p31 : lw_okq (⟨"StairNewsModel", "isDeafHere", "()Z"⟩, 36) := ⟨⟨by decide +kernel, by decide +kernel⟩, List.mem_of_getElem? (i := 1012) (by decide +kernel), List.mem_of_getElem? (i := 1223) (by decide +kernel), List.mem_of_getElem? (i := 1224) (by decide +kernel)⟩
def lw_privs_2 : List (MethodName × Nat) := [(⟨"StairNewsModel", "clauseHere", "()Z"⟩, 36), (⟨"StairNewsModel", "see", "()I"⟩, 36), (⟨"StairNewsModel", "isHouseWord", "()Z"⟩, 36), (⟨"StairNewsModel", "isWord", "(J)Z"⟩, 36), (⟨"StairNewsModel", "isLetter", "(I)Z"⟩, 36), (⟨"StairNewsModel", "fails", "(II)Z"⟩, 36), (⟨"StairNewsModel", "houseLineHere", "(I)Z"⟩, 36), (⟨"StairNewsModel", "isHouseHere", "(I)Z"⟩, 36), (⟨"StairNewsModel", "passWord", "()V"⟩, 36), (⟨"StairNewsModel", "cellHere", "(III)Z"⟩, 36), (⟨"StairNewsModel", "numberHere", "(II)Z"⟩, 36), (⟨"StairNewsModel", "isDigit", "(I)Z"⟩, 36), (⟨"StairNewsModel", "isPersonHere", "(I)Z"⟩, 36), (⟨"StairNewsModel", "isErrandHere", "(I)Z"⟩, 36), (⟨"StairNewsModel", "areHatesHere", "(I)Z"⟩, 36), (⟨"StairNewsModel", "isDeafHere", "()Z"⟩, 36)]
theorem lw_r2 : ∀ q ∈ lw_privs_2, lw_okq q := List.forall_mem_cons.mpr ⟨lw_p16, List.forall_mem_cons.mpr ⟨lw_p17, List.forall_mem_cons.mpr ⟨lw_p18, List.forall_mem_cons.mpr ⟨lw_p19, List.forall_mem_cons.mpr ⟨lw_p20, List.forall_mem_cons.mpr ⟨lw_p21, List.forall_mem_cons.mpr ⟨lw_p22, List.forall_mem_cons.mpr ⟨lw_p23, List.forall_mem_cons.mpr ⟨lw_p24, List.forall_mem_cons.mpr ⟨lw_p25, List.forall_mem_cons.mpr ⟨lw_p26, List.forall_mem_cons.mpr ⟨lw_p27, List.forall_mem_cons.mpr ⟨lw_p28, List.forall_mem_cons.mpr ⟨lw_p29, List.forall_mem_cons.mpr ⟨lw_p30, List.forall_mem_cons.mpr ⟨lw_p31, fun _ h => absurd h List.not_mem_nil⟩⟩⟩⟩⟩⟩⟩⟩⟩⟩⟩⟩⟩⟩⟩⟩
theorem lw_p32 : lw_okq (⟨"StairNewsModel", "isTwistHere", "(I)Z"⟩, 36) := ⟨⟨by decide +kernel, by decide +kernel⟩, List.mem_of_getElem? (i := 1012) (by decide +kernel), List.mem_of_getElem? (i := 1227) (by decide +kernel), List.mem_of_getElem? (i := 1228) (by decide +kernel)⟩
theorem lw_p33 : lw_okq (⟨"StairNewsModel", "isFloorSetHere", "(I)Z"⟩, 36) := ⟨⟨by decide +kernel, by decide +kernel⟩, List.mem_of_getElem? (i := 1012) (by decide +kernel), List.mem_of_getElem? (i := 1231) (by decide +kernel), List.mem_of_getElem? (i := 1232) (by decide +kernel)⟩
theorem lw_p34 : lw_okq (⟨"StairNewsModel", "isNightHere", "(I)Z"⟩, 36) := ⟨⟨by decide +kernel, by decide +kernel⟩, List.mem_of_getElem? (i := 1012) (by decide +kernel), List.mem_of_getElem? (i := 1235) (by decide +kernel), List.mem_of_getElem? (i := 1236) (by decide +kernel)⟩
theorem lw_p35 : lw_okq (⟨"StairNewsModel", "isBucketHere", "(I)Z"⟩, 36) := ⟨⟨by decide +kernel, by decide +kernel⟩, List.mem_of_getElem? (i := 1012) (by decide +kernel), List.mem_of_getElem? (i := 1239) (by decide +kernel), List.mem_of_getElem? (i := 1240) (by decide +kernel)⟩
theorem lw_p36 : lw_okq (⟨"StairNewsModel", "isTellHere", "()Z"⟩, 36) := ⟨⟨by decide +kernel, by decide +kernel⟩, List.mem_of_getElem? (i := 1012) (by decide +kernel), List.mem_of_getElem? (i := 1243) (by decide +kernel), List.mem_of_getElem? (i := 1244) (by decide +kernel)⟩
theorem lw_p37 : lw_okq (⟨"StairNewsModel", "sum", "()Z"⟩, 36) := ⟨⟨by decide +kernel, by decide +kernel⟩, List.mem_of_getElem? (i := 1012) (by decide +kernel), List.mem_of_getElem? (i := 1247) (by decide +kernel), List.mem_of_getElem? (i := 1248) (by decide +kernel)⟩
theorem lw_p38 : lw_okq (⟨"StairNewsModel", "term", "()Z"⟩, 36) := ⟨⟨by decide +kernel, by decide +kernel⟩, List.mem_of_getElem? (i := 1012) (by decide +kernel), List.mem_of_getElem? (i := 1251) (by decide +kernel), List.mem_of_getElem? (i := 1252) (by decide +kernel)⟩
theorem lw_p39 : lw_okq (⟨"StairNewsModel", "value", "()Z"⟩, 36) := ⟨⟨by decide +kernel, by decide +kernel⟩, List.mem_of_getElem? (i := 1012) (by decide +kernel), List.mem_of_getElem? (i := 1255) (by decide +kernel), List.mem_of_getElem? (i := 1256) (by decide +kernel)⟩
theorem lw_p40 : lw_okq (⟨"StairNewsModel", "makes", "(I)Z"⟩, 36) := ⟨⟨by decide +kernel, by decide +kernel⟩, List.mem_of_getElem? (i := 1012) (by decide +kernel), List.mem_of_getElem? (i := 1260) (by decide +kernel), List.mem_of_getElem? (i := 1261) (by decide +kernel)⟩
theorem lw_p41 : lw_okq (⟨"StairNewsModel", "puts", "(II)V"⟩, 36) := ⟨⟨by decide +kernel, by decide +kernel⟩, List.mem_of_getElem? (i := 1012) (by decide +kernel), List.mem_of_getElem? (i := 1264) (by decide +kernel), List.mem_of_getElem? (i := 1265) (by decide +kernel)⟩
theorem lw_p42 : lw_okq (⟨"StairNewsModel", "wordHere", "()I"⟩, 36) := ⟨⟨by decide +kernel, by decide +kernel⟩, List.mem_of_getElem? (i := 1012) (by decide +kernel), List.mem_of_getElem? (i := 1268) (by decide +kernel), List.mem_of_getElem? (i := 1269) (by decide +kernel)⟩
theorem lw_p43 : lw_okq (⟨"StairNewsModel", "takesWord", "(J)Z"⟩, 36) := ⟨⟨by decide +kernel, by decide +kernel⟩, List.mem_of_getElem? (i := 1012) (by decide +kernel), List.mem_of_getElem? (i := 1283) (by decide +kernel), List.mem_of_getElem? (i := 1284) (by decide +kernel)⟩
theorem lw_p44 : lw_okq (⟨"StairNewsModel", "tested", "()Z"⟩, 36) := ⟨⟨by decide +kernel, by decide +kernel⟩, List.mem_of_getElem? (i := 1012) (by decide +kernel), List.mem_of_getElem? (i := 1287) (by decide +kernel), List.mem_of_getElem? (i := 1288) (by decide +kernel)⟩
theorem lw_p45 : lw_okq (⟨"StairNewsModel", "fact", "()Z"⟩, 36) := ⟨⟨by decide +kernel, by decide +kernel⟩, List.mem_of_getElem? (i := 1012) (by decide +kernel), List.mem_of_getElem? (i := 1291) (by decide +kernel), List.mem_of_getElem? (i := 1292) (by decide +kernel)⟩
theorem lw_p46 : lw_okq (⟨"StairNewsModel", "opens", "(I)Z"⟩, 36) := ⟨⟨by decide +kernel, by decide +kernel⟩, List.mem_of_getElem? (i := 1012) (by decide +kernel), List.mem_of_getElem? (i := 1296) (by decide +kernel), List.mem_of_getElem? (i := 1297) (by decide +kernel)⟩
theorem lw_p47 : lw_okq (⟨"StairNewsModel", "compare", "()Z"⟩, 36) := ⟨⟨by decide +kernel, by decide +kernel⟩, List.mem_of_getElem? (i := 1012) (by decide +kernel), List.mem_of_getElem? (i := 1300) (by decide +kernel), List.mem_of_getElem? (i := 1301) (by decide +kernel)⟩
def lw_privs_3 : List (MethodName × Nat) := [(⟨"StairNewsModel", "isTwistHere", "(I)Z"⟩, 36), (⟨"StairNewsModel", "isFloorSetHere", "(I)Z"⟩, 36), (⟨"StairNewsModel", "isNightHere", "(I)Z"⟩, 36), (⟨"StairNewsModel", "isBucketHere", "(I)Z"⟩, 36), (⟨"StairNewsModel", "isTellHere", "()Z"⟩, 36), (⟨"StairNewsModel", "sum", "()Z"⟩, 36), (⟨"StairNewsModel", "term", "()Z"⟩, 36), (⟨"StairNewsModel", "value", "()Z"⟩, 36), (⟨"StairNewsModel", "makes", "(I)Z"⟩, 36), (⟨"StairNewsModel", "puts", "(II)V"⟩, 36), (⟨"StairNewsModel", "wordHere", "()I"⟩, 36), (⟨"StairNewsModel", "takesWord", "(J)Z"⟩, 36), (⟨"StairNewsModel", "tested", "()Z"⟩, 36), (⟨"StairNewsModel", "fact", "()Z"⟩, 36), (⟨"StairNewsModel", "opens", "(I)Z"⟩, 36), (⟨"StairNewsModel", "compare", "()Z"⟩, 36)]
theorem lw_r3 : ∀ q ∈ lw_privs_3, lw_okq q := List.forall_mem_cons.mpr ⟨lw_p32, List.forall_mem_cons.mpr ⟨lw_p33, List.forall_mem_cons.mpr ⟨lw_p34, List.forall_mem_cons.mpr ⟨lw_p35, List.forall_mem_cons.mpr ⟨lw_p36, List.forall_mem_cons.mpr ⟨lw_p37, List.forall_mem_cons.mpr ⟨lw_p38, List.forall_mem_cons.mpr ⟨lw_p39, List.forall_mem_cons.mpr ⟨lw_p40, List.forall_mem_cons.mpr ⟨lw_p41, List.forall_mem_cons.mpr ⟨lw_p42, List.forall_mem_cons.mpr ⟨lw_p43, List.forall_mem_cons.mpr ⟨lw_p44, List.forall_mem_cons.mpr ⟨lw_p45, List.forall_mem_cons.mpr ⟨lw_p46, List.forall_mem_cons.mpr ⟨lw_p47, fun _ h => absurd h List.not_mem_nil⟩⟩⟩⟩⟩⟩⟩⟩⟩⟩⟩⟩⟩⟩⟩⟩
theorem lw_p48 : lw_okq (⟨"StairNewsModel", "closes", "()V"⟩, 36) := ⟨⟨by decide +kernel, by decide +kernel⟩, List.mem_of_getElem? (i := 1012) (by decide +kernel), List.mem_of_getElem? (i := 1304) (by decide +kernel), List.mem_of_getElem? (i := 1305) (by decide +kernel)⟩
theorem lw_p49 : lw_okq (⟨"StairNewsModel", "settles", "(I)V"⟩, 36) := ⟨⟨by decide +kernel, by decide +kernel⟩, List.mem_of_getElem? (i := 1012) (by decide +kernel), List.mem_of_getElem? (i := 1308) (by decide +kernel), List.mem_of_getElem? (i := 1309) (by decide +kernel)⟩
theorem lw_p50 : lw_okq (⟨"StairNewsModel", "isInside", "()Z"⟩, 36) := ⟨⟨by decide +kernel, by decide +kernel⟩, List.mem_of_getElem? (i := 1012) (by decide +kernel), List.mem_of_getElem? (i := 1315) (by decide +kernel), List.mem_of_getElem? (i := 1316) (by decide +kernel)⟩
theorem lw_p51 : lw_okq (⟨"StairNewsModel", "personOf", "(II)I"⟩, 36) := ⟨⟨by decide +kernel, by decide +kernel⟩, List.mem_of_getElem? (i := 1012) (by decide +kernel), List.mem_of_getElem? (i := 1325) (by decide +kernel), List.mem_of_getElem? (i := 1326) (by decide +kernel)⟩
theorem lw_p52 : lw_okq (⟨"StairNewsModel", "isRule", "(I)Z"⟩, 36) := ⟨⟨by decide +kernel, by decide +kernel⟩, List.mem_of_getElem? (i := 1012) (by decide +kernel), List.mem_of_getElem? (i := 1333) (by decide +kernel), List.mem_of_getElem? (i := 1334) (by decide +kernel)⟩
theorem lw_p53 : lw_okq (⟨"StairNewsModel", "isPerson", "(I)Z"⟩, 36) := ⟨⟨by decide +kernel, by decide +kernel⟩, List.mem_of_getElem? (i := 1012) (by decide +kernel), List.mem_of_getElem? (i := 1341) (by decide +kernel), List.mem_of_getElem? (i := 1342) (by decide +kernel)⟩
theorem lw_p54 : lw_okq (⟨"StairNewsModel", "isFloor", "(I)Z"⟩, 36) := ⟨⟨by decide +kernel, by decide +kernel⟩, List.mem_of_getElem? (i := 1012) (by decide +kernel), List.mem_of_getElem? (i := 1355) (by decide +kernel), List.mem_of_getElem? (i := 1356) (by decide +kernel)⟩
theorem lw_p55 : lw_okq (⟨"StairNewsModel", "isHouse", "()Z"⟩, 36) := ⟨⟨by decide +kernel, by decide +kernel⟩, List.mem_of_getElem? (i := 1012) (by decide +kernel), List.mem_of_getElem? (i := 1367) (by decide +kernel), List.mem_of_getElem? (i := 1368) (by decide +kernel)⟩
theorem lw_p56 : lw_okq (⟨"StairNewsModel", "keepsAct", "()V"⟩, 36) := ⟨⟨by decide +kernel, by decide +kernel⟩, List.mem_of_getElem? (i := 1012) (by decide +kernel), List.mem_of_getElem? (i := 1371) (by decide +kernel), List.mem_of_getElem? (i := 1372) (by decide +kernel)⟩
theorem lw_p57 : lw_okq (⟨"StairNewsModel", "passes", "()I"⟩, 36) := ⟨⟨by decide +kernel, by decide +kernel⟩, List.mem_of_getElem? (i := 1012) (by decide +kernel), List.mem_of_getElem? (i := 1375) (by decide +kernel), List.mem_of_getElem? (i := 1376) (by decide +kernel)⟩
theorem lw_p58 : lw_okq (⟨"StairNewsModel", "isStanding", "(I)Z"⟩, 36) := ⟨⟨by decide +kernel, by decide +kernel⟩, List.mem_of_getElem? (i := 1012) (by decide +kernel), List.mem_of_getElem? (i := 1379) (by decide +kernel), List.mem_of_getElem? (i := 1380) (by decide +kernel)⟩
theorem lw_p59 : lw_okq (⟨"StairNewsModel", "errandOf", "(II)I"⟩, 36) := ⟨⟨by decide +kernel, by decide +kernel⟩, List.mem_of_getElem? (i := 1012) (by decide +kernel), List.mem_of_getElem? (i := 1383) (by decide +kernel), List.mem_of_getElem? (i := 1384) (by decide +kernel)⟩
theorem lw_p60 : lw_okq (⟨"StairNewsModel", "setsOut", "(II)V"⟩, 36) := ⟨⟨by decide +kernel, by decide +kernel⟩, List.mem_of_getElem? (i := 1012) (by decide +kernel), List.mem_of_getElem? (i := 1387) (by decide +kernel), List.mem_of_getElem? (i := 1388) (by decide +kernel)⟩
theorem lw_p61 : lw_okq (⟨"StairNewsModel", "walks", "(I)V"⟩, 36) := ⟨⟨by decide +kernel, by decide +kernel⟩, List.mem_of_getElem? (i := 1012) (by decide +kernel), List.mem_of_getElem? (i := 1391) (by decide +kernel), List.mem_of_getElem? (i := 1392) (by decide +kernel)⟩
theorem lw_p62 : lw_okq (⟨"StairNewsModel", "tellerOf", "(I)I"⟩, 36) := ⟨⟨by decide +kernel, by decide +kernel⟩, List.mem_of_getElem? (i := 1012) (by decide +kernel), List.mem_of_getElem? (i := 1395) (by decide +kernel), List.mem_of_getElem? (i := 1396) (by decide +kernel)⟩
theorem lw_p63 : lw_okq (⟨"StairNewsModel", "knowsOf", "(I)Z"⟩, 36) := ⟨⟨by decide +kernel, by decide +kernel⟩, List.mem_of_getElem? (i := 1012) (by decide +kernel), List.mem_of_getElem? (i := 1399) (by decide +kernel), List.mem_of_getElem? (i := 1400) (by decide +kernel)⟩
def lw_privs_4 : List (MethodName × Nat) := [(⟨"StairNewsModel", "closes", "()V"⟩, 36), (⟨"StairNewsModel", "settles", "(I)V"⟩, 36), (⟨"StairNewsModel", "isInside", "()Z"⟩, 36), (⟨"StairNewsModel", "personOf", "(II)I"⟩, 36), (⟨"StairNewsModel", "isRule", "(I)Z"⟩, 36), (⟨"StairNewsModel", "isPerson", "(I)Z"⟩, 36), (⟨"StairNewsModel", "isFloor", "(I)Z"⟩, 36), (⟨"StairNewsModel", "isHouse", "()Z"⟩, 36), (⟨"StairNewsModel", "keepsAct", "()V"⟩, 36), (⟨"StairNewsModel", "passes", "()I"⟩, 36), (⟨"StairNewsModel", "isStanding", "(I)Z"⟩, 36), (⟨"StairNewsModel", "errandOf", "(II)I"⟩, 36), (⟨"StairNewsModel", "setsOut", "(II)V"⟩, 36), (⟨"StairNewsModel", "walks", "(I)V"⟩, 36), (⟨"StairNewsModel", "tellerOf", "(I)I"⟩, 36), (⟨"StairNewsModel", "knowsOf", "(I)Z"⟩, 36)]
theorem lw_r4 : ∀ q ∈ lw_privs_4, lw_okq q := List.forall_mem_cons.mpr ⟨lw_p48, List.forall_mem_cons.mpr ⟨lw_p49, List.forall_mem_cons.mpr ⟨lw_p50, List.forall_mem_cons.mpr ⟨lw_p51, List.forall_mem_cons.mpr ⟨lw_p52, List.forall_mem_cons.mpr ⟨lw_p53, List.forall_mem_cons.mpr ⟨lw_p54, List.forall_mem_cons.mpr ⟨lw_p55, List.forall_mem_cons.mpr ⟨lw_p56, List.forall_mem_cons.mpr ⟨lw_p57, List.forall_mem_cons.mpr ⟨lw_p58, List.forall_mem_cons.mpr ⟨lw_p59, List.forall_mem_cons.mpr ⟨lw_p60, List.forall_mem_cons.mpr ⟨lw_p61, List.forall_mem_cons.mpr ⟨lw_p62, List.forall_mem_cons.mpr ⟨lw_p63, fun _ h => absurd h List.not_mem_nil⟩⟩⟩⟩⟩⟩⟩⟩⟩⟩⟩⟩⟩⟩⟩⟩
theorem lw_p64 : lw_okq (⟨"StairNewsModel", "tells", "(II)Z"⟩, 36) := ⟨⟨by decide +kernel, by decide +kernel⟩, List.mem_of_getElem? (i := 1012) (by decide +kernel), List.mem_of_getElem? (i := 1406) (by decide +kernel), List.mem_of_getElem? (i := 1407) (by decide +kernel)⟩
theorem lw_p65 : lw_okq (⟨"StairNewsModel", "isOn", "(II)Z"⟩, 36) := ⟨⟨by decide +kernel, by decide +kernel⟩, List.mem_of_getElem? (i := 1012) (by decide +kernel), List.mem_of_getElem? (i := 1410) (by decide +kernel), List.mem_of_getElem? (i := 1411) (by decide +kernel)⟩
theorem lw_p66 : lw_okq (⟨"StairNewsModel", "isNight", "(I)Z"⟩, 36) := ⟨⟨by decide +kernel, by decide +kernel⟩, List.mem_of_getElem? (i := 1012) (by decide +kernel), List.mem_of_getElem? (i := 1414) (by decide +kernel), List.mem_of_getElem? (i := 1415) (by decide +kernel)⟩
theorem lw_p67 : lw_okq (⟨"StairNewsModel", "othersOn", "(III)I"⟩, 36) := ⟨⟨by decide +kernel, by decide +kernel⟩, List.mem_of_getElem? (i := 1012) (by decide +kernel), List.mem_of_getElem? (i := 1418) (by decide +kernel), List.mem_of_getElem? (i := 1419) (by decide +kernel)⟩
theorem lw_p68 : lw_okq (⟨"StairNewsModel", "words", "(II)V"⟩, 36) := ⟨⟨by decide +kernel, by decide +kernel⟩, List.mem_of_getElem? (i := 1012) (by decide +kernel), List.mem_of_getElem? (i := 1422) (by decide +kernel), List.mem_of_getElem? (i := 1423) (by decide +kernel)⟩
theorem lw_p69 : lw_okq (⟨"StairNewsModel", "knowing", "()I"⟩, 36) := ⟨⟨by decide +kernel, by decide +kernel⟩, List.mem_of_getElem? (i := 1012) (by decide +kernel), List.mem_of_getElem? (i := 1426) (by decide +kernel), List.mem_of_getElem? (i := 1427) (by decide +kernel)⟩
theorem lw_p70 : lw_okq (⟨"StairNewsModel", "summedBy", "(I)J"⟩, 36) := ⟨⟨by decide +kernel, by decide +kernel⟩, List.mem_of_getElem? (i := 1012) (by decide +kernel), List.mem_of_getElem? (i := 1433) (by decide +kernel), List.mem_of_getElem? (i := 1434) (by decide +kernel)⟩
theorem lw_p71 : lw_okq (⟨"StairNewsModel", "reckons", "(III)J"⟩, 36) := ⟨⟨by decide +kernel, by decide +kernel⟩, List.mem_of_getElem? (i := 1012) (by decide +kernel), List.mem_of_getElem? (i := 1437) (by decide +kernel), List.mem_of_getElem? (i := 1438) (by decide +kernel)⟩
theorem lw_p72 : lw_okq (⟨"StairNewsModel", "push", "(J)V"⟩, 36) := ⟨⟨by decide +kernel, by decide +kernel⟩, List.mem_of_getElem? (i := 1012) (by decide +kernel), List.mem_of_getElem? (i := 1441) (by decide +kernel), List.mem_of_getElem? (i := 1442) (by decide +kernel)⟩
theorem lw_p73 : lw_okq (⟨"StairNewsModel", "pop", "()J"⟩, 36) := ⟨⟨by decide +kernel, by decide +kernel⟩, List.mem_of_getElem? (i := 1012) (by decide +kernel), List.mem_of_getElem? (i := 1445) (by decide +kernel), List.mem_of_getElem? (i := 1446) (by decide +kernel)⟩
theorem lw_p74 : lw_okq (⟨"StairNewsModel", "hearsOf", "(II)V"⟩, 36) := ⟨⟨by decide +kernel, by decide +kernel⟩, List.mem_of_getElem? (i := 1012) (by decide +kernel), List.mem_of_getElem? (i := 1452) (by decide +kernel), List.mem_of_getElem? (i := 1453) (by decide +kernel)⟩
theorem lw_p75 : lw_okq (⟨"StairNewsModel", "whispers", "(II)V"⟩, 36) := ⟨⟨by decide +kernel, by decide +kernel⟩, List.mem_of_getElem? (i := 1012) (by decide +kernel), List.mem_of_getElem? (i := 1461) (by decide +kernel), List.mem_of_getElem? (i := 1462) (by decide +kernel)⟩
theorem lw_p76 : lw_okq (⟨"StairNewsModel", "keeps", "()V"⟩, 36) := ⟨⟨by decide +kernel, by decide +kernel⟩, List.mem_of_getElem? (i := 1012) (by decide +kernel), List.mem_of_getElem? (i := 1485) (by decide +kernel), List.mem_of_getElem? (i := 1486) (by decide +kernel)⟩
theorem lw_p77 : lw_okq (⟨"StairNewsModel", "passesOn", "(I)V"⟩, 36) := ⟨⟨by decide +kernel, by decide +kernel⟩, List.mem_of_getElem? (i := 1012) (by decide +kernel), List.mem_of_getElem? (i := 1489) (by decide +kernel), List.mem_of_getElem? (i := 1490) (by decide +kernel)⟩
theorem lw_p78 : lw_okq (⟨"StairNewsModel", "laysBack", "()V"⟩, 36) := ⟨⟨by decide +kernel, by decide +kernel⟩, List.mem_of_getElem? (i := 1012) (by decide +kernel), List.mem_of_getElem? (i := 1493) (by decide +kernel), List.mem_of_getElem? (i := 1494) (by decide +kernel)⟩
theorem lw_p79 : lw_okq (⟨"StairNewsModel", "unknowing", "()I"⟩, 36) := ⟨⟨by decide +kernel, by decide +kernel⟩, List.mem_of_getElem? (i := 1012) (by decide +kernel), List.mem_of_getElem? (i := 1510) (by decide +kernel), List.mem_of_getElem? (i := 1511) (by decide +kernel)⟩
def lw_privs_5 : List (MethodName × Nat) := [(⟨"StairNewsModel", "tells", "(II)Z"⟩, 36), (⟨"StairNewsModel", "isOn", "(II)Z"⟩, 36), (⟨"StairNewsModel", "isNight", "(I)Z"⟩, 36), (⟨"StairNewsModel", "othersOn", "(III)I"⟩, 36), (⟨"StairNewsModel", "words", "(II)V"⟩, 36), (⟨"StairNewsModel", "knowing", "()I"⟩, 36), (⟨"StairNewsModel", "summedBy", "(I)J"⟩, 36), (⟨"StairNewsModel", "reckons", "(III)J"⟩, 36), (⟨"StairNewsModel", "push", "(J)V"⟩, 36), (⟨"StairNewsModel", "pop", "()J"⟩, 36), (⟨"StairNewsModel", "hearsOf", "(II)V"⟩, 36), (⟨"StairNewsModel", "whispers", "(II)V"⟩, 36), (⟨"StairNewsModel", "keeps", "()V"⟩, 36), (⟨"StairNewsModel", "passesOn", "(I)V"⟩, 36), (⟨"StairNewsModel", "laysBack", "()V"⟩, 36), (⟨"StairNewsModel", "unknowing", "()I"⟩, 36)]
theorem lw_r5 : ∀ q ∈ lw_privs_5, lw_okq q := List.forall_mem_cons.mpr ⟨lw_p64, List.forall_mem_cons.mpr ⟨lw_p65, List.forall_mem_cons.mpr ⟨lw_p66, List.forall_mem_cons.mpr ⟨lw_p67, List.forall_mem_cons.mpr ⟨lw_p68, List.forall_mem_cons.mpr ⟨lw_p69, List.forall_mem_cons.mpr ⟨lw_p70, List.forall_mem_cons.mpr ⟨lw_p71, List.forall_mem_cons.mpr ⟨lw_p72, List.forall_mem_cons.mpr ⟨lw_p73, List.forall_mem_cons.mpr ⟨lw_p74, List.forall_mem_cons.mpr ⟨lw_p75, List.forall_mem_cons.mpr ⟨lw_p76, List.forall_mem_cons.mpr ⟨lw_p77, List.forall_mem_cons.mpr ⟨lw_p78, List.forall_mem_cons.mpr ⟨lw_p79, fun _ h => absurd h List.not_mem_nil⟩⟩⟩⟩⟩⟩⟩⟩⟩⟩⟩⟩⟩⟩⟩⟩
theorem lw_p80 : lw_okq (⟨"StairNewsModel", "knowsAtHome", "(I)Z"⟩, 36) := ⟨⟨by decide +kernel, by decide +kernel⟩, List.mem_of_getElem? (i := 1012) (by decide +kernel), List.mem_of_getElem? (i := 1514) (by decide +kernel), List.mem_of_getElem? (i := 1515) (by decide +kernel)⟩
theorem lw_p81 : lw_okq (⟨"StairNewsModel", "gathersStarts", "()V"⟩, 36) := ⟨⟨by decide +kernel, by decide +kernel⟩, List.mem_of_getElem? (i := 1012) (by decide +kernel), List.mem_of_getElem? (i := 1528) (by decide +kernel), List.mem_of_getElem? (i := 1529) (by decide +kernel)⟩
theorem lw_p82 : lw_okq (⟨"StairNewsModel", "goesFromStart", "(III)V"⟩, 36) := ⟨⟨by decide +kernel, by decide +kernel⟩, List.mem_of_getElem? (i := 1012) (by decide +kernel), List.mem_of_getElem? (i := 1532) (by decide +kernel), List.mem_of_getElem? (i := 1533) (by decide +kernel)⟩
theorem lw_p83 : lw_okq (⟨"StairNewsModel", "areNewsSo", "()Z"⟩, 36) := ⟨⟨by decide +kernel, by decide +kernel⟩, List.mem_of_getElem? (i := 1012) (by decide +kernel), List.mem_of_getElem? (i := 1536) (by decide +kernel), List.mem_of_getElem? (i := 1537) (by decide +kernel)⟩
theorem lw_p84 : lw_okq (⟨"StairNewsModel", "newsOf", "(I)I"⟩, 36) := ⟨⟨by decide +kernel, by decide +kernel⟩, List.mem_of_getElem? (i := 1012) (by decide +kernel), List.mem_of_getElem? (i := 1540) (by decide +kernel), List.mem_of_getElem? (i := 1541) (by decide +kernel)⟩
theorem lw_p85 : lw_okq (⟨"StairNewsModel", "keepsStart", "(II)V"⟩, 36) := ⟨⟨by decide +kernel, by decide +kernel⟩, List.mem_of_getElem? (i := 1012) (by decide +kernel), List.mem_of_getElem? (i := 1544) (by decide +kernel), List.mem_of_getElem? (i := 1545) (by decide +kernel)⟩
theorem lw_p86 : lw_okq (⟨"StairNewsModel", "alikeOf", "(I)I"⟩, 36) := ⟨⟨by decide +kernel, by decide +kernel⟩, List.mem_of_getElem? (i := 1012) (by decide +kernel), List.mem_of_getElem? (i := 1552) (by decide +kernel), List.mem_of_getElem? (i := 1553) (by decide +kernel)⟩
theorem lw_p87 : lw_okq (⟨"StairNewsModel", "flightsTo", "(I)I"⟩, 36) := ⟨⟨by decide +kernel, by decide +kernel⟩, List.mem_of_getElem? (i := 1012) (by decide +kernel), List.mem_of_getElem? (i := 1568) (by decide +kernel), List.mem_of_getElem? (i := 1569) (by decide +kernel)⟩
theorem lw_p88 : lw_okq (⟨"StairNewsModel", "lastHears", "()I"⟩, 36) := ⟨⟨by decide +kernel, by decide +kernel⟩, List.mem_of_getElem? (i := 1012) (by decide +kernel), List.mem_of_getElem? (i := 1576) (by decide +kernel), List.mem_of_getElem? (i := 1577) (by decide +kernel)⟩
theorem lw_p89 : lw_okq (⟨"StairNewsModel", "sendsDrawn", "()V"⟩, 36) := ⟨⟨by decide +kernel, by decide +kernel⟩, List.mem_of_getElem? (i := 1012) (by decide +kernel), List.mem_of_getElem? (i := 1590) (by decide +kernel), List.mem_of_getElem? (i := 1591) (by decide +kernel)⟩
theorem lw_p90 : lw_okq (⟨"StairNewsModel", "draw", "(I)I"⟩, 36) := ⟨⟨by decide +kernel, by decide +kernel⟩, List.mem_of_getElem? (i := 1012) (by decide +kernel), List.mem_of_getElem? (i := 1594) (by decide +kernel), List.mem_of_getElem? (i := 1595) (by decide +kernel)⟩
def lw_privs_6 : List (MethodName × Nat) := [(⟨"StairNewsModel", "knowsAtHome", "(I)Z"⟩, 36), (⟨"StairNewsModel", "gathersStarts", "()V"⟩, 36), (⟨"StairNewsModel", "goesFromStart", "(III)V"⟩, 36), (⟨"StairNewsModel", "areNewsSo", "()Z"⟩, 36), (⟨"StairNewsModel", "newsOf", "(I)I"⟩, 36), (⟨"StairNewsModel", "keepsStart", "(II)V"⟩, 36), (⟨"StairNewsModel", "alikeOf", "(I)I"⟩, 36), (⟨"StairNewsModel", "flightsTo", "(I)I"⟩, 36), (⟨"StairNewsModel", "lastHears", "()I"⟩, 36), (⟨"StairNewsModel", "sendsDrawn", "()V"⟩, 36), (⟨"StairNewsModel", "draw", "(I)I"⟩, 36)]
theorem lw_r6 : ∀ q ∈ lw_privs_6, lw_okq q := List.forall_mem_cons.mpr ⟨lw_p80, List.forall_mem_cons.mpr ⟨lw_p81, List.forall_mem_cons.mpr ⟨lw_p82, List.forall_mem_cons.mpr ⟨lw_p83, List.forall_mem_cons.mpr ⟨lw_p84, List.forall_mem_cons.mpr ⟨lw_p85, List.forall_mem_cons.mpr ⟨lw_p86, List.forall_mem_cons.mpr ⟨lw_p87, List.forall_mem_cons.mpr ⟨lw_p88, List.forall_mem_cons.mpr ⟨lw_p89, List.forall_mem_cons.mpr ⟨lw_p90, fun _ h => absurd h List.not_mem_nil⟩⟩⟩⟩⟩⟩⟩⟩⟩⟩⟩
def lw_privs : List (MethodName × Nat) := lw_privs_1 ++ (lw_privs_2 ++ (lw_privs_3 ++ (lw_privs_4 ++ (lw_privs_5 ++ (lw_privs_6)))))
def lw_tbl : List Cond := k2_sels lw_privs ++ tables_1
theorem lw_privs_ok : ∀ q ∈ lw_privs, lw_okq q := by
  show ∀ q ∈ lw_privs_1 ++ (lw_privs_2 ++ (lw_privs_3 ++ (lw_privs_4 ++ (lw_privs_5 ++ (lw_privs_6))))), lw_okq q
  exact List.forall_mem_append.mpr ⟨lw_r1, List.forall_mem_append.mpr ⟨lw_r2, List.forall_mem_append.mpr ⟨lw_r3, List.forall_mem_append.mpr ⟨lw_r4, List.forall_mem_append.mpr ⟨lw_r5, lw_r6⟩⟩⟩⟩⟩
end
section
/-! A LITTLE MACHINE: the bytecode of this program over a plain picture of the heap. A value is a Value: .ref j is the j-th cell of the picture; .retAddr k stands for the k-th number of the script (k = 6: its length), of which a range is known; .double k for the same as a long; .float u for such a number shifted. -/
abbrev xm_O : Type := Nat × List Value
abbrev xm_G : Type := List (List (Option xm_O))
abbrev xm_H : Type := Nat × xm_G
abbrev xm_E : Type := Nat × Instr × Nat × Nat × List Nat × Value
abbrev xm_L : Type := List (Nat × Value)
abbrev xm_R : Type := List (Int × Int)
abbrev xm_Q : Type := Option Value → xm_H → xm_R → Bool
abbrev xm_K : Type := xm_L → List Value → xm_H → xm_R → Nat → Nat → Bool
abbrev xm_M : Type := Nat × MethodName × ByteArray × Nat × Option FieldType × Nat × Nat × Nat × List xm_E
/-! lists -/
noncomputable def xm_nth {α : Type} (l : List α) : Nat → Option α :=
  List.rec (motive := fun _ => Nat → Option α) (fun _ => none) (fun a _ ih n => Nat.rec (motive := fun _ => Option α) (some a) (fun j _ => ih j) n) l
noncomputable def xm_put {α : Type} (x : α) (l : List α) : Nat → List α :=
  List.rec (motive := fun _ => Nat → List α) (fun _ => []) (fun a t ih n => Nat.rec (motive := fun _ => List α) (x :: t) (fun j _ => a :: ih j) n) l
noncomputable def xm_ext {α : Type} (d x : α) (n : Nat) : List α :=
  Nat.rec (motive := fun _ => List α) [x] (fun _ ih => d :: ih) n
noncomputable def xm_putx {α : Type} (d x : α) (l : List α) : Nat → List α :=
  List.rec (motive := fun _ => Nat → List α) (fun n => xm_ext d x n) (fun a t ih n => Nat.rec (motive := fun _ => List α) (x :: t) (fun j _ => a :: ih j) n) l
noncomputable def xm_drop {α : Type} (n : Nat) : List α → List α :=
  Nat.rec (motive := fun _ => List α → List α) (fun l => l) (fun _ ih l => List.rec (motive := fun _ => List α) [] (fun _ t _ => ih t) l) n
noncomputable def xm_rep {α : Type} (x : α) (n : Nat) : List α := Nat.rec (motive := fun _ => List α) [] (fun _ ih => x :: ih) n
noncomputable def xm_len {α : Type} (l : List α) : Nat := List.rec (motive := fun _ => Nat) 0 (fun _ _ ih => Nat.succ ih) l
/-! the heap's picture -/
noncomputable def xm_jn {α : Type} (o : Option (Option α)) : Option α := match o with
  | some (some x) => some x
  | _ => none
noncomputable def xm_ck (G : xm_G) (j : Nat) : List (Option xm_O) := match xm_nth G j with
  | some c => c
  | none => []
noncomputable def xm_hget (G : xm_H) (j : Nat) : Option xm_O := xm_jn (xm_nth (xm_ck G.2 (Nat.div j 16)) (Nat.mod j 16))
noncomputable def xm_gput (G : xm_G) (j : Nat) (o : xm_O) : xm_G := xm_putx [] (xm_putx none (some o) (xm_ck G (Nat.div j 16)) (Nat.mod j 16)) G (Nat.div j 16)
noncomputable def xm_hput (G : xm_H) (j : Nat) (o : xm_O) : xm_H := (G.1, xm_gput G.2 j o)
noncomputable def xm_push (G : xm_H) (o : xm_O) : xm_H := (Nat.succ G.1, xm_gput G.2 G.1 o)
/-! locals -/
noncomputable def xm_get (l : xm_L) (i : Nat) : Option Value :=
  List.rec (motive := fun _ => Option Value) none (fun q _ ih => cond (Nat.beq q.1 i) (some q.2) ih) l
def xm_set1 (l : xm_L) (i : Nat) (v : Value) : xm_L := (i, v) :: l.filter (fun q => !(q.1 == i) && !(q.1 + 1 == i && q.2.category == 2))
def xm_set2 (l : xm_L) (i : Nat) (v : Value) : xm_L := (i, v) :: l.filter (fun q => !(q.1 == i) && (!(q.1 == i + 1) && !(q.1 + 1 == i && q.2.category == 2)))
/-! kinds of values -/
def xm_isI : Value → Bool
  | .int _ => true
  | .retAddr _ => true
  | .float _ => true
  | _ => false
def xm_isL : Value → Bool
  | .long _ => true
  | .double _ => true
  | _ => false
def xm_isA : Value → Bool
  | .ref _ => true
  | .null => true
  | _ => false
def xm_cat1 (v : Value) : Bool := !(xm_isL v)
noncomputable def xm_cats (st : List Value) : Nat := List.rec (motive := fun _ => Nat) 0 (fun v _ ih => Nat.add (cond (xm_isL v) 2 1) ih) st
/-! numbers: a number is made plain before it is kept -/
noncomputable def xm_frc (x : Int32) (k : Int32 → Bool) : Bool := Nat.rec (motive := fun _ => Bool) (k (Int32.ofNat 0)) (fun n _ => k (Int32.ofNat (Nat.succ n))) x.toBitVec.toNat
noncomputable def xm_all (lo : Int) (n : Nat) (k : Int → Bool) : Bool := Nat.rec (motive := fun _ => Bool) true (fun j ih => and (k (lo + Int.ofNat j)) ih) n
noncomputable def xm_conc (E : xm_R) (v : Value) (k : xm_R → Int32 → Bool) : Bool := match v with
  | .int x => k E x
  | .retAddr i => match xm_nth E i with
    | some (lo, hi) => cond (decide (hi - lo < 16)) (xm_all lo (hi - lo + 1).toNat (fun c => k (xm_put (c, c) E i) (Int32.ofInt c))) false
    | none => false
  | _ => false
def xm_sgn (a b : Int) : Int := bif decide (a < b) then -1 else bif decide (a = b) then 0 else 1
noncomputable def xm_split (E : xm_R) (i : Nat) (c : Int) (k : xm_R → Int → Bool) : Bool := match xm_nth E i with
  | some (lo, hi) => and (bif decide (lo < c) then k (xm_put (lo, min hi (c - 1)) E i) (-1) else true) (and (bif decide (lo ≤ c) && decide (c ≤ hi) then k (xm_put (c, c) E i) 0 else true) (bif decide (c < hi) then k (xm_put (max lo (c + 1), hi) E i) 1 else true))
  | none => false
noncomputable def xm_cmpI (E : xm_R) (v w : Value) (k : xm_R → Int → Bool) : Bool := match v, w with
  | .int x, .int y => k E (xm_sgn x.toInt y.toInt)
  | .retAddr i, .int y => xm_split E i y.toInt k
  | .int x, .retAddr i => xm_split E i x.toInt (fun E s => k E (-s))
  | .retAddr i, .retAddr j => bif Nat.beq i j then k E 0 else false
  | _, _ => false
noncomputable def xm_cmpL (E : xm_R) (v w : Value) (k : xm_R → Int → Bool) : Bool := match v, w with
  | .long x, .long y => k E (xm_sgn x.toInt y.toInt)
  | .double i, .long y => xm_split E i.toNat y.toInt k
  | .long x, .double i => xm_split E i.toNat x.toInt (fun E s => k E (-s))
  | _, _ => false
def xm_holds (c : Jvm.ClassFile.Cond) (s : Int) : Bool := match c with
  | .eq => decide (s = 0)
  | .ne => !decide (s = 0)
  | .lt => decide (s < 0)
  | .ge => !decide (s < 0)
  | .gt => decide (0 < s)
  | .le => !decide (0 < s)
def xm_iop (i : Instr) (x y : Int32) : Option Int32 := match i with
  | .iadd => some (x + y)
  | .isub => some (x - y)
  | .imul => some (x * y)
  | .iand => some (x &&& y)
  | .ior => some (x ||| y)
  | .ixor => some (x ^^^ y)
  | .ishl => some (x <<< (y &&& 31))
  | .ishr => some (x >>> (y &&& 31))
  | .iushr => some ((x.toUInt32 >>> (y.toUInt32 &&& Int32.toUInt32 31)).toInt32)
  | .idiv => bif decide (y = 0) then none else some (x / y)
  | .irem => bif decide (y = 0) then none else some (x - x / y * y)
  | _ => none
def xm_lop (i : Instr) (x y : Int64) : Option Int64 := match i with
  | .ladd => some (x + y)
  | .lsub => some (x - y)
  | .lmul => some (x * y)
  | .land => some (x &&& y)
  | .lor => some (x ||| y)
  | .ldiv => bif decide (y = 0) then none else some (x / y)
  | .lrem => bif decide (y = 0) then none else some (x - x / y * y)
  | _ => none
noncomputable def xm_int2 (i : Instr) (st : List Value) (E : xm_R) (k : List Value → xm_R → Bool) : Bool := match st with
  | w :: u :: st => xm_conc E w (fun E y => xm_conc E u (fun E x => match xm_iop i x y with
    | some z => xm_frc z (fun z => k (.int z :: st) E)
    | none => false))
  | _ => false
noncomputable def xm_iand (st : List Value) (E : xm_R) (k : List Value → xm_R → Bool) : Bool := match st with
  | .int m :: .retAddr j :: st => bif decide (m = 31) then xm_all 0 32 (fun c => k (.int (Int32.ofInt c) :: st) E) else false
  | st => xm_int2 .iand st E k
noncomputable def xm_ishr (st : List Value) (E : xm_R) (k : List Value → xm_R → Bool) : Bool := match st with
  | .int m :: .retAddr j :: st => bif decide (0 ≤ m.toInt) && (decide (m.toInt < 32) && Nat.blt j 1000) then k (.float (UInt32.ofNat (64 * j + m.toInt.toNat)) :: st) E else false
  | st => xm_int2 .ishr st E k
noncomputable def xm_long2 (i : Instr) (st : List Value) (k : List Value → Bool) : Bool := match st with
  | .long y :: .long x :: st => match xm_lop i x y with
    | some z => k (.long z :: st)
    | none => false
  | _ => false
noncomputable def xm_i2b (st : List Value) (E : xm_R) (k : List Value → xm_R → Bool) : Bool := match st with
  | .float u :: st => bif Nat.beq (u.toNat / 32 % 2) 0 && Nat.blt u.toNat 100000 then k (.float (UInt32.ofNat (u.toNat + 32)) :: st) E else false
  | w :: st => xm_conc E w (fun E x => k (.int x.toInt8.toInt32 :: st) E)
  | _ => false
noncomputable def xm_i2l (st : List Value) (k : List Value → Bool) : Bool := match st with
  | .int x :: st => k (.long x.toInt64 :: st)
  | .retAddr j :: st => bif Nat.blt j 1000 then k (.double (UInt64.ofNat j) :: st) else false
  | _ => false
/-- an array of kind t at the picture's place j, read at the place x -/
noncomputable def xm_rd (ok : Nat → Bool) (G : xm_H) (j : Nat) (x : Int32) (k : Value → Bool) : Bool := match xm_hget G j with
  | some (t, vs) => bif ok t && decide (0 ≤ x.toInt) then (match xm_nth vs x.toInt.toNat with
    | some w => k w
    | none => false) else false
  | none => false
noncomputable def xm_wr (ok : Nat → Bool) (G : xm_H) (j : Nat) (x : Int32) (w : Value) (k : xm_H → Bool) : Bool := match xm_hget G j with
  | some (t, vs) => bif ok t && (decide (0 ≤ x.toInt) && Nat.ble 7 j) then (match xm_nth vs x.toInt.toNat with
    | some _ => k (xm_hput G j (t, xm_put w vs x.toInt.toNat))
    | none => false) else false
  | none => false
noncomputable def xm_ald (ok : Nat → Bool) (st : List Value) (G : xm_H) (E : xm_R) (k : List Value → xm_R → Bool) : Bool := match st with
  | ix :: .ref j :: st => xm_conc E ix (fun E x => xm_rd ok G j x (fun w => k (w :: st) E))
  | _ => false
noncomputable def xm_iald (st : List Value) (G : xm_H) (E : xm_R) (k : List Value → xm_R → Bool) : Bool := match st with
  | ix :: .ref j :: st => bif Nat.beq j 0 then (match xm_hget G 0 with
      | some (t, _) => bif Nat.beq t 300 then xm_conc E ix (fun E x => match xm_nth E 6 with
        | some (lo, _) => bif decide (0 ≤ x.toInt) && decide (x.toInt < lo) then k (.retAddr x.toInt.toNat :: st) E else false
        | none => false) else false
      | none => false)
    else xm_ald (fun t => Nat.beq t 100) (ix :: .ref j :: st) G E k
  | _ => false
noncomputable def xm_ast (ok : Nat → Bool) (okv : Value → Option Value) (st : List Value) (G : xm_H) (E : xm_R) (k : List Value → xm_H → xm_R → Bool) : Bool := match st with
  | w :: ix :: .ref j :: st => (match okv w with
    | some w => xm_conc E ix (fun E x => xm_wr ok G j x w (fun G => k st G E))
    | none => false)
  | _ => false
def xm_kI (v : Value) : Option Value := bif xm_isI v then some v else none
def xm_kL (v : Value) : Option Value := match v with
  | .long x => some (.long x)
  | _ => none
def xm_kB (v : Value) : Option Value := match v with
  | .int x => some (.int x.toInt8.toInt32)
  | .float u => bif Nat.beq (u.toNat / 32 % 2) 1 then some (.float u) else none
  | _ => none
def xm_kZ (v : Value) : Option Value := match v with
  | .int x => bif decide (x = 0) || decide (x = 1) then some (.int x) else none
  | _ => none
noncomputable def xm_bast (st : List Value) (G : xm_H) (E : xm_R) (k : List Value → xm_H → xm_R → Bool) : Bool := match st with
  | w :: ix :: .ref j :: st => (match xm_hget G j with
    | some (t, _) => bif Nat.beq t 103 then xm_ast (fun t => Nat.beq t 103) xm_kZ (w :: ix :: .ref j :: st) G E k else xm_ast (fun t => Nat.beq t 101) xm_kB (w :: ix :: .ref j :: st) G E k
    | none => false)
  | _ => false
noncomputable def xm_bald (st : List Value) (G : xm_H) (E : xm_R) (k : List Value → xm_R → Bool) : Bool := match st with
  | ix :: .ref j :: st => (match xm_hget G j with
    | some (t, _) => bif Nat.beq t 103 then xm_ald (fun t => Nat.beq t 103) (ix :: .ref j :: st) G E k else xm_ald (fun t => Nat.beq t 101) (ix :: .ref j :: st) G E k
    | none => false)
  | _ => false
/-- which class's objects an array of references holds: the array's number, the class's -/
def xm_ofA (t : Nat) : Option Nat := match t with
  | 104 => some 6
  | 105 => some 0
  | 106 => some 4
  | 107 => some 8
  | _ => none
noncomputable def xm_aast (st : List Value) (G : xm_H) (E : xm_R) (k : List Value → xm_H → xm_R → Bool) : Bool := match st with
  | .ref q :: ix :: .ref j :: st => (match xm_hget G q with
    | some (c, _) => xm_conc E ix (fun E x => xm_wr (fun t => (match xm_ofA t with
      | some c1 => Nat.beq c1 c && Nat.blt c 100
      | none => false)) G j x (.ref q) (fun G => k st G E))
    | none => false)
  | _ => false
def xm_isAr (t : Nat) : Bool := match t with
  | 104 => true
  | 105 => true
  | 106 => true
  | 107 => true
  | _ => false
noncomputable def xm_alen (st : List Value) (G : xm_H) (k : List Value → Bool) : Bool := match st with
  | .ref j :: st => (match xm_hget G j with
    | some (t, vs) => bif Nat.beq t 300 then k (.retAddr 6 :: st) else bif Nat.ble 100 t && Nat.blt t 108 then k (.int (Int32.ofNat (xm_len vs)) :: st) else false
    | none => false)
  | _ => false
/-- what a new array of a kind begins with -/
def xm_zero (t : Nat) : Value := match t with
  | 100 => .int 0
  | 101 => .int 0
  | 102 => .long 0
  | 103 => .int 0
  | _ => .null
noncomputable def xm_newa (t : Nat) (st : List Value) (G : xm_H) (E : xm_R) (kc ks mc ms : Nat) (k : List Value → xm_H → xm_R → Nat → Nat → Bool) : Bool := match st with
  | w :: st => xm_conc E w (fun E x => bif decide (0 ≤ x.toInt) && (Nat.ble (kc + 1) mc && (Nat.ble (ks + x.toInt.toNat) ms && Nat.ble x.toInt.toNat 65536)) then
      k (.ref G.1 :: st) (xm_push G (t, xm_rep (xm_zero t) x.toInt.toNat)) E (kc + 1) (ks + x.toInt.toNat) else false)
  | _ => false
noncomputable def xm_getf (a b : Nat) (st : List Value) (G : xm_H) (k : List Value → Bool) : Bool := match st with
  | .ref j :: st => (match xm_hget G j with
    | some (t, vs) => bif Nat.beq t a then (match xm_nth vs b with
      | some w => k (w :: st)
      | none => false) else false
    | none => false)
  | _ => false
def xm_fit (ty : FieldType) (v : Value) : Bool := match ty with
  | .int => xm_isI v
  | .boolean => (match v with
    | .int x => decide (x = 0) || decide (x = 1)
    | _ => false)
  | .long => xm_isL v
  | .object _ => xm_isA v
  | .array _ => xm_isA v
  | _ => false
noncomputable def xm_pop (n : Nat) : List Value → List Value → (List Value → List Value → Bool) → Bool :=
  Nat.rec (motive := fun _ => List Value → List Value → (List Value → List Value → Bool) → Bool) (fun acc st k => k acc st) (fun _ ih acc st k => match st with
    | v :: st => ih (v :: acc) st k
    | [] => false) n
noncomputable def xm_copy (sp dp n : Nat) (f g : List Value) : List Value := 
  Nat.rec (motive := fun _ => List Value) g (fun i ih => match xm_nth f (sp + i) with
    | some w => xm_put w ih (dp + i)
    | none => ih) n
noncomputable def xm_allI (l : List Value) : Bool := List.rec (motive := fun _ => Bool) true (fun v _ ih => xm_isI v && ih) l
noncomputable def xm_acopy (st : List Value) (G : xm_H) (k : List Value → xm_H → Bool) : Bool := match st with
  | .int n :: .int dp :: .ref j :: .int sp :: .ref i :: st => (match xm_hget G i, xm_hget G j with
    | some (t, vs), some (t1, ws) => bif Nat.beq t 100 && (Nat.beq t1 100 && (Nat.ble 7 j && (!(Nat.beq i j) && (Nat.ble (xm_cats st) 8 && (xm_allI vs && (decide (0 ≤ n.toInt) && (decide (0 ≤ dp.toInt) && (decide (0 ≤ sp.toInt) && (Nat.ble (sp.toInt.toNat + n.toInt.toNat) (xm_len vs) && Nat.ble (dp.toInt.toNat + n.toInt.toNat) (xm_len ws)))))))))) then
        k st (xm_hput G j (100, xm_copy sp.toInt.toNat dp.toInt.toNat n.toInt.toNat vs ws)) else false
    | _, _ => false)
  | _ => false
noncomputable def xm_tsw (j : Nat) (l h : Int) (E : xm_R) (k : xm_R → Nat → Bool) (ts : List Nat) : Int → Bool :=
  List.rec (motive := fun _ => Int → Bool) (fun _ => true) (fun t _ ih c => and (bif decide (l ≤ c) && decide (c ≤ h) then k (xm_put (c, c) E j) t else true) (ih (c + 1))) ts
noncomputable def xm_table (lo : Int) (a : Nat) (ts : List Nat) (w : Value) (E : xm_R) (k : xm_R → Nat → Bool) : Bool := match w with
  | .int x => bif decide (x.toInt < lo) || decide (lo + Int.ofNat (xm_len ts) ≤ x.toInt) then k E a else (match xm_nth ts (x.toInt - lo).toNat with
    | some t => k E t
    | none => false)
  | .retAddr j => (match xm_nth E j with
    | some (l, h) => and (bif decide (l < lo) then k (xm_put (l, min h (lo - 1)) E j) a else true) (and (bif decide (lo + Int.ofNat (xm_len ts) ≤ h) then k (xm_put (max l (lo + Int.ofNat (xm_len ts)), h) E j) a else true) (xm_tsw j l h E k ts lo))
    | none => false)
  | _ => false
noncomputable def xm_look (a : Nat) (ps : List (Int × Int)) (ts : List Nat) (x : Int) : Nat :=
  List.rec (motive := fun _ => List Nat → Nat) (fun _ => a) (fun q _ ih ts => match ts with
    | t :: ts => bif decide (q.1 = x) then t else ih ts
    | [] => a) ps ts
end
section
/-! printed by wip/p1/gen_tables.py: classes, owners, links, methods -/
def xm_T0 : u_T := fun k => match k with
  | 0 => ("StairNews$Folk", "bell", "I", false)
  | 1 => ("StairNews$Folk", "plants", "I", false)
  | 2 => ("StairNews$Folk", "at", "[I", true)
  | 3 => ("StairNews$Folk", "goal", "[I", true)
  | 4 => ("StairNews$Folk", "left", "[I", true)
  | _ => ("StairNews$Folk", "pace", "[I", true)
def xm_Y0 : Nat → FieldType := fun k => match k with
  | 0 => .int
  | 1 => .int
  | 2 => .array .int
  | 3 => .array .int
  | 4 => .array .int
  | _ => .array .int
def xm_T1 : u_T := fun k => match k with
  | 0 => ("StairNews$Gossip", "house", "LStairNews$House;", true)
  | 1 => ("StairNews$Gossip", "rule", "LStairNews$Rule;", false)
  | 2 => ("StairNews$Gossip", "plants", "I", false)
  | 3 => ("StairNews$Gossip", "deaf", "I", false)
  | 4 => ("StairNews$Gossip", "words", "[J", true)
  | _ => ("StairNews$Gossip", "stack", "[J", true)
def xm_Y1 : Nat → FieldType := fun k => match k with
  | 0 => .object "StairNews$House"
  | 1 => .object "StairNews$Rule"
  | 2 => .int
  | 3 => .int
  | 4 => .array .long
  | _ => .array .long
def xm_T2 : u_T := fun k => match k with
  | 0 => ("StairNews$History", "folks", "[LStairNews$Folk;", true)
  | 1 => ("StairNews$History", "lores", "[LStairNews$Lore;", true)
  | 2 => ("StairNews$History", "next", "I", false)
  | _ => ("StairNews$History", "size", "I", false)
def xm_Y2 : Nat → FieldType := fun k => match k with
  | 0 => .array (.object "StairNews$Folk")
  | 1 => .array (.object "StairNews$Lore")
  | 2 => .int
  | _ => .int
def xm_T3 : u_T := fun k => match k with
  | 0 => ("StairNews$House", "floors", "I", false)
  | 1 => ("StairNews$House", "people", "I", false)
  | 2 => ("StairNews$House", "errands", "I", false)
  | 3 => ("StairNews$House", "hates", "I", false)
  | 4 => ("StairNews$House", "deaf", "I", false)
  | 5 => ("StairNews$House", "plants", "I", false)
  | 6 => ("StairNews$House", "lit", "I", false)
  | 7 => ("StairNews$House", "night", "I", false)
  | 8 => ("StairNews$House", "bucketFrom", "I", false)
  | 9 => ("StairNews$House", "bucketTo", "I", false)
  | 10 => ("StairNews$House", "home", "[I", true)
  | 11 => ("StairNews$House", "pace", "[I", true)
  | 12 => ("StairNews$House", "hated", "[I", true)
  | 13 => ("StairNews$House", "twist", "[I", true)
  | 14 => ("StairNews$House", "errandPerson", "[I", true)
  | 15 => ("StairNews$House", "errandFloor", "[I", true)
  | _ => ("StairNews$House", "errandBell", "[I", true)
def xm_Y3 : Nat → FieldType := fun k => match k with
  | 0 => .int
  | 1 => .int
  | 2 => .int
  | 3 => .int
  | 4 => .int
  | 5 => .int
  | 6 => .int
  | 7 => .int
  | 8 => .int
  | 9 => .int
  | 10 => .array .int
  | 11 => .array .int
  | 12 => .array .int
  | 13 => .array .int
  | 14 => .array .int
  | 15 => .array .int
  | _ => .array .int
def xm_T4 : u_T := fun k => match k with
  | 0 => ("StairNews$Lore", "known", "I", false)
  | 1 => ("StairNews$Lore", "heardAt", "[I", true)
  | 2 => ("StairNews$Lore", "chairs", "[I", true)
  | _ => ("StairNews$Lore", "teller", "[I", true)
def xm_Y4 : Nat → FieldType := fun k => match k with
  | 0 => .int
  | 1 => .array .int
  | 2 => .array .int
  | _ => .array .int
def xm_T5 : u_T := fun k => match k with
  | 0 => ("StairNews$Outlook", "now", "LStairNews$Scene;", true)
  | 1 => ("StairNews$Outlook", "gossip", "LStairNews$Gossip;", true)
  | 2 => ("StairNews$Outlook", "folk", "LStairNews$Folk;", true)
  | 3 => ("StairNews$Outlook", "lore", "LStairNews$Lore;", true)
  | 4 => ("StairNews$Outlook", "landings", "[J", true)
  | 5 => ("StairNews$Outlook", "startAnswers", "[I", true)
  | 6 => ("StairNews$Outlook", "tally", "[I", true)
  | 7 => ("StairNews$Outlook", "firstBell", "I", false)
  | 8 => ("StairNews$Outlook", "startCount", "I", false)
  | 9 => ("StairNews$Outlook", "startPerson", "I", false)
  | 10 => ("StairNews$Outlook", "startBell", "I", false)
  | 11 => ("StairNews$Outlook", "fewestAlike", "I", false)
  | _ => ("StairNews$Outlook", "fewestKnowers", "I", false)
def xm_Y5 : Nat → FieldType := fun k => match k with
  | 0 => .object "StairNews$Scene"
  | 1 => .object "StairNews$Gossip"
  | 2 => .object "StairNews$Folk"
  | 3 => .object "StairNews$Lore"
  | 4 => .array .long
  | 5 => .array .int
  | 6 => .array .int
  | 7 => .int
  | 8 => .int
  | 9 => .int
  | 10 => .int
  | 11 => .int
  | _ => .int
def xm_T6 : u_T := fun k => match k with
  | 0 => ("StairNews$Rule", "code", "[I", true)
  | 1 => ("StairNews$Rule", "sumAt", "[I", true)
  | 2 => ("StairNews$Rule", "testAt", "[I", true)
  | 3 => ("StairNews$Rule", "size", "I", false)
  | _ => ("StairNews$Rule", "clauses", "I", false)
def xm_Y6 : Nat → FieldType := fun k => match k with
  | 0 => .array .int
  | 1 => .array .int
  | 2 => .array .int
  | 3 => .int
  | _ => .int
def xm_T7 : u_T := fun k => match k with
  | 0 => ("StairNews$RuleReader", "tape", "LStairNews$Tape;", true)
  | 1 => ("StairNews$RuleReader", "rule", "LStairNews$Rule;", false)
  | _ => ("StairNews$RuleReader", "amount", "I", false)
def xm_Y7 : Nat → FieldType := fun k => match k with
  | 0 => .object "StairNews$Tape"
  | 1 => .object "StairNews$Rule"
  | _ => .int
def xm_T8 : u_T := fun k => match k with
  | 0 => ("StairNews$Scene", "told", "LStairNews$House;", true)
  | 1 => ("StairNews$Scene", "folk", "LStairNews$Folk;", true)
  | 2 => ("StairNews$Scene", "lore", "LStairNews$Lore;", true)
  | 3 => ("StairNews$Scene", "newsPerson", "[I", true)
  | 4 => ("StairNews$Scene", "newsChairs", "[I", true)
  | 5 => ("StairNews$Scene", "newsCount", "I", false)
  | 6 => ("StairNews$Scene", "inForce", "I", false)
  | 7 => ("StairNews$Scene", "seed", "I", false)
  | _ => ("StairNews$Scene", "made", "Z", false)
def xm_Y8 : Nat → FieldType := fun k => match k with
  | 0 => .object "StairNews$House"
  | 1 => .object "StairNews$Folk"
  | 2 => .object "StairNews$Lore"
  | 3 => .array .int
  | 4 => .array .int
  | 5 => .int
  | 6 => .int
  | 7 => .int
  | _ => .boolean
def xm_T9 : u_T := fun k => match k with
  | 0 => ("StairNews$Tape", "bytes", "[B", true)
  | 1 => ("StairNews$Tape", "length", "I", false)
  | 2 => ("StairNews$Tape", "kind", "I", false)
  | 3 => ("StairNews$Tape", "place", "I", false)
  | 4 => ("StairNews$Tape", "size", "I", false)
  | _ => ("StairNews$Tape", "fault", "I", false)
def xm_Y9 : Nat → FieldType := fun k => match k with
  | 0 => .array .byte
  | 1 => .int
  | 2 => .int
  | 3 => .int
  | 4 => .int
  | _ => .int
def xm_T10 : u_T := fun k => match k with
  | 0 => ("StairNews", "tape", "LStairNews$Tape;", true)
  | 1 => ("StairNews", "now", "LStairNews$Scene;", true)
  | 2 => ("StairNews", "spare", "LStairNews$House;", true)
  | 3 => ("StairNews", "rules", "[LStairNews$Rule;", true)
  | 4 => ("StairNews", "ruleReader", "LStairNews$RuleReader;", true)
  | 5 => ("StairNews", "history", "LStairNews$History;", true)
  | 6 => ("StairNews", "images", "[LStairNews$Scene;", true)
  | 7 => ("StairNews", "outlook", "LStairNews$Outlook;", true)
  | _ => ("StairNews", "ruleCount", "I", false)
def xm_Y10 : Nat → FieldType := fun k => match k with
  | 0 => .object "StairNews$Tape"
  | 1 => .object "StairNews$Scene"
  | 2 => .object "StairNews$House"
  | 3 => .array (.object "StairNews$Rule")
  | 4 => .object "StairNews$RuleReader"
  | 5 => .object "StairNews$History"
  | 6 => .array (.object "StairNews$Scene")
  | 7 => .object "StairNews$Outlook"
  | _ => .int
def xm_T11 : u_T := fun k => match k with
  | 0 => ("StairNewsModel", "tape", "[B", true)
  | 1 => ("StairNewsModel", "taped", "I", false)
  | 2 => ("StairNewsModel", "rules", "I", false)
  | 3 => ("StairNewsModel", "sign", "[I", true)
  | 4 => ("StairNewsModel", "length", "[I", true)
  | 5 => ("StairNewsModel", "clause", "[I", true)
  | 6 => ("StairNewsModel", "clauses", "[I", true)
  | 7 => ("StairNewsModel", "read", "[I", true)
  | 8 => ("StairNewsModel", "next", "I", false)
  | 9 => ("StairNewsModel", "wrong", "I", false)
  | 10 => ("StairNewsModel", "number", "I", false)
  | 11 => ("StairNewsModel", "text", "I", false)
  | 12 => ("StairNewsModel", "made", "I", false)
  | 13 => ("StairNewsModel", "deep", "I", false)
  | 14 => ("StairNewsModel", "lines", "I", false)
  | 15 => ("StairNewsModel", "open", "[I", true)
  | 16 => ("StairNewsModel", "opened", "I", false)
  | 17 => ("StairNewsModel", "stack", "[J", true)
  | 18 => ("StairNewsModel", "top", "I", false)
  | 19 => ("StairNewsModel", "word", "[J", true)
  | 20 => ("StairNewsModel", "said", "[I", true)
  | 21 => ("StairNewsModel", "force", "I", false)
  | 22 => ("StairNewsModel", "x", "I", false)
  | 23 => ("StairNewsModel", "onLanding", "I", false)
  | 24 => ("StairNewsModel", "teller", "[I", true)
  | 25 => ("StairNewsModel", "wasSaid", "[I", true)
  | 26 => ("StairNewsModel", "undone", "I", false)
  | 27 => ("StairNewsModel", "kept", "[I", true)
  | 28 => ("StairNewsModel", "start", "[I", true)
  | 29 => ("StairNewsModel", "knew", "[I", true)
  | 30 => ("StairNewsModel", "startMany", "I", false)
  | 31 => ("StairNewsModel", "drawX", "J", false)
  | 32 => ("StairNewsModel", "images", "[I", true)
  | 33 => ("StairNewsModel", "imageForce", "[I", true)
  | 34 => ("StairNewsModel", "imageX", "[I", true)
  | _ => ("StairNewsModel", "isMade", "[Z", true)
def xm_Y11 : Nat → FieldType := fun k => match k with
  | 0 => .array .byte
  | 1 => .int
  | 2 => .int
  | 3 => .array .int
  | 4 => .array .int
  | 5 => .array .int
  | 6 => .array .int
  | 7 => .array .int
  | 8 => .int
  | 9 => .int
  | 10 => .int
  | 11 => .int
  | 12 => .int
  | 13 => .int
  | 14 => .int
  | 15 => .array .int
  | 16 => .int
  | 17 => .array .long
  | 18 => .int
  | 19 => .array .long
  | 20 => .array .int
  | 21 => .int
  | 22 => .int
  | 23 => .int
  | 24 => .array .int
  | 25 => .array .int
  | 26 => .int
  | 27 => .array .int
  | 28 => .array .int
  | 29 => .array .int
  | 30 => .int
  | 31 => .long
  | 32 => .array .int
  | 33 => .array .int
  | 34 => .array .int
  | _ => .array .boolean
def xm_cls : List vw_C := [("StairNews$Folk", xm_T0, 6), ("StairNews$Gossip", xm_T1, 6), ("StairNews$History", xm_T2, 4), ("StairNews$House", xm_T3, 17), ("StairNews$Lore", xm_T4, 4), ("StairNews$Outlook", xm_T5, 13), ("StairNews$Rule", xm_T6, 5), ("StairNews$RuleReader", xm_T7, 3), ("StairNews$Scene", xm_T8, 9), ("StairNews$Tape", xm_T9, 6), ("StairNews", xm_T10, 9), ("StairNewsModel", xm_T11, 36)]
def xm_ty (c : Nat) : Nat → FieldType := match c with
  | 0 => xm_Y0
  | 1 => xm_Y1
  | 2 => xm_Y2
  | 3 => xm_Y3
  | 4 => xm_Y4
  | 5 => xm_Y5
  | 6 => xm_Y6
  | 7 => xm_Y7
  | 8 => xm_Y8
  | 9 => xm_Y9
  | 10 => xm_Y10
  | _ => xm_Y11
def xm_def (c : Nat) : List Value := match c with
  | 0 => [.int 0, .int 0, .null, .null, .null, .null]
  | 1 => [.null, .null, .int 0, .int 0, .null, .null]
  | 2 => [.null, .null, .int 0, .int 0]
  | 3 => [.int 0, .int 0, .int 0, .int 0, .int 0, .int 0, .int 0, .int 0, .int 0, .int 0, .null, .null, .null, .null, .null, .null, .null]
  | 4 => [.int 0, .null, .null, .null]
  | 5 => [.null, .null, .null, .null, .null, .null, .null, .int 0, .int 0, .int 0, .int 0, .int 0, .int 0]
  | 6 => [.null, .null, .null, .int 0, .int 0]
  | 7 => [.null, .null, .int 0]
  | 8 => [.null, .null, .null, .null, .null, .int 0, .int 0, .int 0, .int 0]
  | 9 => [.null, .int 0, .int 0, .int 0, .int 0, .int 0]
  | 10 => [.null, .null, .null, .null, .null, .null, .null, .null, .int 0]
  | _ => [.null, .int 0, .int 0, .null, .null, .null, .null, .null, .int 0, .int 0, .int 0, .int 0, .int 0, .int 0, .int 0, .null, .int 0, .null, .int 0, .null, .null, .int 0, .int 0, .int 0, .null, .null, .int 0, .null, .null, .null, .int 0, .long 0, .null, .null, .null, .null]
def xm_own (o : Nat) : String := match o with
  | 0 => "StairNewsLaw"
  | 1 => "StairNews$Folk"
  | 2 => "StairNews$Gossip"
  | 3 => "StairNews$History"
  | 4 => "StairNews$House"
  | 5 => "StairNews$Lore"
  | 6 => "StairNews$Outlook"
  | 7 => "StairNews$Rule"
  | 8 => "StairNews$RuleReader"
  | 9 => "StairNews$Scene"
  | 10 => "StairNews$Tape"
  | 11 => "StairNews"
  | 12 => "StairNewsModel"
  | 13 => "StairNews$HouseReader"
  | 14 => "java/util/Arrays"
  | 15 => "java/lang/Math"
  | _ => "java/lang/Integer"
/-- fields: the place in the pool, the class, the field -/
def xm_fl (o : Nat) : List (Nat × Nat × Nat × Nat) := match o with
  | 0 => []
  | 1 => [(9, 0, 2, 271), (15, 0, 3, 274), (18, 0, 4, 276), (21, 0, 5, 278), (24, 0, 0, 265), (28, 0, 1, 268), (37, 3, 5, 185), (40, 3, 10, 204), (43, 3, 11, 209), (58, 3, 1, 174), (70, 3, 2, 177), (73, 3, 14, 218), (76, 3, 16, 222), (82, 3, 15, 220)]
  | 2 => [(11, 1, 4, 436), (15, 1, 5, 437), (18, 1, 0, 429), (22, 3, 1, 169), (28, 4, 0, 303), (33, 1, 3, 434), (36, 3, 7, 194), (39, 1, 2, 433), (42, 3, 6, 189), (51, 3, 0, 165), (62, 3, 9, 201), (65, 3, 8, 198), (75, 4, 2, 311), (79, 3, 13, 214), (86, 3, 10, 205), (89, 3, 12, 211), (92, 1, 1, 431), (96, 4, 1, 307)]
  | 3 => [(11, 2, 0, 398), (19, 2, 1, 399), (25, 2, 2, 400), (29, 8, 1, 328), (39, 8, 2, 332), (46, 2, 3, 401)]
  | 4 => [(9, 3, 7, 193), (15, 3, 8, 197), (18, 3, 9, 200), (21, 3, 10, 203), (25, 3, 11, 208), (28, 3, 12, 210), (31, 3, 13, 213), (34, 3, 14, 217), (37, 3, 15, 219), (40, 3, 16, 221), (43, 3, 0, 164), (46, 3, 1, 170), (49, 3, 2, 176), (52, 3, 3, 180), (55, 3, 4, 182), (58, 3, 5, 186), (61, 3, 6, 190)]
  | 5 => [(9, 4, 1, 306), (15, 4, 2, 310), (18, 4, 3, 313), (27, 4, 0, 302)]
  | 6 => [(12, 5, 2, 454), (21, 5, 3, 456), (25, 5, 4, 458), (29, 5, 5, 459), (33, 5, 6, 460), (36, 5, 0, 452), (42, 8, 0, 325), (51, 5, 1, 453), (55, 1, 1, 430), (59, 8, 1, 329), (60, 0, 1, 269), (64, 1, 2, 432), (65, 3, 4, 181), (70, 1, 3, 435), (75, 8, 2, 333), (79, 0, 0, 266), (90, 5, 7, 461), (103, 3, 1, 173), (106, 4, 0, 304), (131, 3, 10, 207), (139, 5, 8, 462), (145, 3, 5, 188), (155, 5, 9, 464), (158, 5, 10, 466), (167, 5, 11, 468), (179, 3, 0, 167), (182, 5, 12, 470), (185, 4, 1, 309), (188, 8, 7, 344), (201, 0, 2, 273)]
  | 7 => [(9, 6, 0, 504), (15, 6, 1, 505), (18, 6, 2, 506), (21, 6, 3, 507), (25, 6, 4, 508)]
  | 8 => [(9, 7, 0, 376), (25, 7, 1, 377), (29, 7, 2, 378), (64, 9, 5, 136), (78, 9, 2, 131), (96, 9, 4, 134)]
  | 9 => [(12, 8, 0, 324), (21, 8, 1, 327), (28, 8, 2, 331), (32, 8, 3, 335), (36, 8, 4, 337), (39, 8, 6, 341), (53, 8, 5, 339), (68, 8, 7, 343)]
  | 10 => [(9, 9, 0, 127), (15, 9, 1, 129), (19, 9, 5, 137), (22, 9, 3, 132), (25, 9, 4, 133), (31, 9, 2, 130)]
  | 11 => [(12, 10, 0, 520), (19, 10, 1, 521), (26, 10, 2, 522), (32, 10, 3, 523), (41, 10, 4, 524), (48, 10, 5, 525), (52, 10, 6, 526), (61, 10, 7, 527), (66, 9, 1, 128), (87, 8, 0, 326), (90, 3, 1, 171), (93, 10, 8, 528), (99, 8, 6, 342), (106, 8, 1, 330), (110, 0, 2, 272), (116, 0, 3, 275), (119, 0, 4, 277), (122, 0, 5, 279), (125, 3, 10, 206), (128, 3, 12, 212), (131, 3, 4, 184), (138, 3, 13, 216), (141, 8, 2, 334), (145, 4, 1, 308), (150, 4, 2, 312), (153, 4, 3, 314), (162, 0, 1, 270), (165, 3, 6, 192), (172, 0, 0, 267), (196, 4, 0, 305), (215, 2, 3, 402), (227, 5, 3, 457), (228, 5, 2, 455), (242, 8, 5, 340), (245, 8, 3, 336), (248, 8, 4, 338), (254, 5, 8, 463), (257, 5, 9, 465), (260, 5, 10, 467), (266, 5, 11, 469), (272, 5, 12, 471), (278, 3, 0, 168), (287, 8, 7, 345), (297, 3, 2, 178), (303, 3, 7, 196), (309, 8, 8, 346)]
  | 12 => [(7, 11, 0, 1108), (13, 11, 3, 1111), (17, 11, 4, 1112), (20, 11, 5, 1113), (23, 11, 6, 1114), (26, 11, 7, 1115), (29, 11, 15, 1123), (32, 11, 17, 1125), (36, 11, 19, 1127), (39, 11, 20, 1128), (42, 11, 21, 1129), (46, 11, 24, 1132), (49, 11, 25, 1133), (52, 11, 27, 1135), (55, 11, 28, 1136), (58, 11, 29, 1137), (61, 11, 32, 1140), (64, 11, 33, 1141), (67, 11, 34, 1142), (70, 11, 35, 1143), (74, 11, 1, 1109), (81, 11, 9, 1117), (84, 11, 8, 1116), (109, 11, 10, 1118), (138, 11, 11, 1119), (141, 11, 12, 1120), (144, 11, 13, 1121), (147, 11, 16, 1124), (266, 11, 14, 1122), (278, 11, 2, 1110), (288, 11, 26, 1134), (291, 11, 18, 1126), (322, 11, 23, 1131), (419, 11, 30, 1138), (444, 11, 22, 1130), (447, 11, 31, 1139)]
  | 13 => [(29, 9, 5, 135), (54, 3, 1, 172), (57, 3, 2, 175), (60, 3, 3, 179), (63, 3, 7, 195), (66, 3, 9, 202), (79, 3, 0, 166), (90, 3, 4, 183), (93, 3, 13, 215), (100, 3, 5, 187), (103, 3, 6, 191), (106, 3, 8, 199)]
  | 14 => []
  | 15 => []
  | _ => []
/-- methods: the place in the pool, the method, how it is called -/
def xm_ml (o : Nat) : List (Nat × Nat × Nat × Nat) := match o with
  | 0 => [(9, 87, 2, 115), (12, 124, 2, 1104), (13, 88, 0, 548), (17, 129, 0, 1218), (18, 89, 0, 556), (22, 130, 0, 1226), (23, 90, 0, 560), (27, 169, 0, 1411), (28, 91, 0, 703), (31, 168, 0, 1230), (32, 92, 0, 764), (35, 183, 0, 1419), (36, 93, 0, 768), (40, 184, 0, 1427), (41, 94, 0, 779), (44, 185, 0, 1436), (45, 95, 0, 783), (48, 186, 0, 1441), (49, 96, 0, 795), (52, 200, 0, 1453), (53, 97, 0, 894), (57, 202, 0, 1546), (58, 98, 0, 899), (61, 204, 0, 1555), (62, 99, 0, 908), (65, 205, 0, 1562), (66, 100, 0, 912), (69, 206, 0, 1566), (70, 101, 0, 916), (73, 199, 0, 1449), (74, 102, 0, 925), (77, 210, 0, 1570), (78, 103, 0, 942), (81, 211, 0, 1587), (82, 104, 0, 946), (85, 212, 0, 1591), (86, 105, 0, 950), (90, 215, 0, 1595), (91, 106, 0, 979), (94, 216, 0, 1608), (95, 107, 0, 983), (98, 222, 0, 1614), (99, 108, 0, 1007), (102, 224, 0, 1638), (103, 109, 0, 1021), (106, 225, 0, 1646), (107, 110, 0, 1029), (111, 226, 0, 1650), (112, 111, 0, 1037), (115, 228, 0, 1654), (116, 112, 0, 1045), (119, 230, 0, 1662), (120, 113, 0, 1053), (123, 231, 0, 1670), (124, 114, 0, 1057), (127, 234, 0, 1674), (128, 115, 0, 1079), (131, 235, 0, 1692), (132, 116, 0, 1087), (135, 236, 0, 1696), (136, 117, 0, 1098), (139, 237, 0, 1701)]
  | 1 => [(3, 1000, 0, 264), (31, 1001, 0, 693), (44, 240, 1, 694), (50, 4, 0, 842), (54, 9, 0, 837), (61, 10, 0, 850), (64, 1002, 0, 854), (79, 120, 3, 841), (85, 5, 0, 846)]
  | 2 => [(3, 1000, 0, 428), (45, 239, 1, 859), (54, 14, 1, 865), (58, 120, 3, 868), (68, 15, 0, 869), (72, 238, 1, 881), (82, 38, 0, 885), (99, 63, 0, 873)]
  | 3 => [(3, 1000, 0, 391), (23, 1, 4, 396), (24, 35, 2, 397), (35, 2, 0, 807), (43, 37, 0, 811), (49, 1002, 0, 816), (55, 1002, 0, 924)]
  | 4 => [(3, 1000, 0, 163), (64, 240, 1, 579), (70, 1001, 0, 686)]
  | 5 => [(3, 1000, 0, 298), (21, 240, 1, 299), (31, 1001, 0, 815), (37, 1002, 0, 889), (43, 1002, 0, 890), (46, 120, 3, 1001)]
  | 6 => [(3, 1000, 0, 418), (11, 1, 4, 420), (20, 35, 2, 422), (48, 11, 2, 425), (71, 2, 0, 827), (76, 37, 0, 828), (82, 8, 0, 833), (86, 13, 0, 855), (93, 12, 0, 937), (97, 1002, 0, 941), (109, 48, 0, 964), (113, 44, 0, 968), (117, 120, 3, 969), (120, 38, 0, 970), (124, 45, 0, 971), (128, 49, 1, 972), (134, 239, 1, 975), (142, 3, 0, 991), (146, 36, 0, 992), (149, 77, 0, 993), (152, 51, 0, 1002), (161, 40, 0, 1006), (164, 53, 0, 1015), (170, 240, 1, 1019), (176, 1002, 0, 1020), (191, 57, 1, 1066), (197, 4, 0, 1073), (204, 5, 0, 1074)]
  | 7 => [(3, 1000, 0, 503), (28, 64, 0, 877)]
  | 8 => [(3, 1000, 0, 375), (15, 80, 0, 711), (20, 59, 0, 712), (35, 83, 0, 717), (39, 81, 0, 718), (43, 82, 0, 719), (46, 71, 0, 720), (49, 61, 0, 737), (54, 67, 0, 742), (57, 62, 0, 759), (60, 86, 0, 763), (67, 68, 0, 746), (72, 60, 0, 729), (81, 69, 0, 751), (84, 70, 1, 755), (88, 73, 0, 724), (91, 72, 1, 734), (99, 84, 0, 733)]
  | 9 => [(3, 1000, 0, 157), (11, 20, 4, 160), (20, 1, 4, 261), (27, 35, 2, 295), (43, 25, 0, 682), (47, 3, 0, 689), (50, 36, 0, 695), (56, 2, 0, 1095), (59, 37, 0, 1096), (62, 1001, 0, 1097), (71, 40, 0, 997)]
  | 10 => [(3, 1000, 0, 126), (28, 82, 0, 571), (34, 1002, 0, 588), (39, 1002, 0, 598), (43, 84, 0, 654), (46, 81, 0, 658)]
  | 11 => [(3, 1000, 0, 118), (11, 78, 4, 123), (18, 74, 4, 154), (25, 20, 4, 367), (38, 65, 2, 372), (47, 16, 2, 388), (58, 41, 2, 415), (65, 58, 4, 500), (70, 79, 0, 552), (74, 29, 1, 564), (80, 75, 0, 678), (84, 19, 0, 699), (96, 66, 0, 707), (102, 23, 0, 772), (134, 120, 1, 776), (156, 22, 0, 787), (159, 7, 0, 791), (168, 21, 0, 799), (175, 17, 0, 803), (178, 118, 0, 819), (182, 42, 0, 823), (186, 43, 0, 829), (190, 239, 1, 893), (199, 38, 0, 898), (203, 4, 0, 903), (206, 5, 0, 904), (210, 1002, 0, 905), (218, 18, 0, 920), (221, 44, 0, 929), (224, 45, 0, 933), (229, 121, 1, 954), (232, 122, 1, 957), (235, 46, 0, 960), (239, 123, 1, 976), (251, 50, 0, 987), (263, 52, 0, 1011), (269, 54, 0, 1025), (275, 47, 0, 1033), (281, 119, 0, 1041), (284, 55, 0, 1049), (291, 56, 0, 1062), (294, 39, 0, 1075), (300, 6, 0, 1083), (306, 76, 0, 1091)]
  | 12 => [(1, 1000, 0, 1107), (77, 128, 0, 1222), (87, 132, 0, 1242), (91, 134, 0, 1255), (95, 135, 0, 1251), (99, 136, 0, 1282), (102, 133, 0, 1294), (105, 131, 0, 1270), (112, 125, 1, 1298), (150, 143, 1, 1402), (154, 140, 0, 1354), (159, 138, 0, 1290), (162, 141, 0, 1350), (165, 139, 0, 1358), (168, 145, 0, 1345), (172, 146, 0, 1341), (175, 147, 0, 1337), (180, 142, 0, 1386), (183, 148, 0, 1390), (186, 144, 0, 1398), (189, 150, 0, 1405), (192, 149, 0, 1381), (195, 151, 0, 1394), (204, 137, 0, 1373), (207, 152, 0, 1377), (210, 154, 0, 1286), (216, 155, 0, 1278), (221, 156, 0, 1301), (226, 157, 0, 1305), (231, 158, 0, 1309), (236, 159, 0, 1313), (241, 160, 0, 1317), (248, 161, 0, 1321), (253, 162, 0, 1325), (256, 163, 0, 1329), (261, 165, 0, 1246), (269, 164, 0, 1274), (272, 153, 0, 1333), (275, 166, 0, 1238), (281, 167, 0, 1234), (284, 178, 0, 1415), (294, 171, 0, 1531), (298, 172, 0, 1535), (302, 173, 1, 1539), (306, 179, 0, 1489), (309, 170, 0, 1423), (312, 176, 0, 1431), (319, 177, 0, 1445), (325, 126, 1, 1493), (328, 190, 0, 1500), (331, 191, 0, 1508), (335, 181, 0, 1516), (338, 127, 1, 1520), (341, 182, 0, 1504), (344, 174, 0, 1527), (348, 192, 0, 1512), (351, 193, 0, 1523), (355, 194, 0, 1496), (358, 180, 0, 1469), (361, 188, 0, 1473), (364, 187, 0, 1477), (367, 189, 0, 1481), (370, 195, 0, 1485), (373, 197, 0, 1542), (376, 175, 0, 1457), (379, 198, 0, 1461), (382, 196, 0, 1465), (387, 201, 0, 1551), (390, 203, 1, 1559), (395, 207, 0, 1575), (398, 209, 0, 1579), (401, 208, 0, 1583), (406, 213, 0, 1600), (409, 214, 0, 1604), (416, 217, 0, 1630), (422, 219, 0, 1622), (426, 218, 0, 1626), (429, 221, 0, 1634), (432, 220, 0, 1618), (435, 223, 0, 1642), (438, 227, 0, 1658), (441, 229, 0, 1666), (459, 232, 0, 1684), (465, 233, 0, 1680)]
  | 13 => [(9, 80, 0, 567), (14, 24, 0, 575), (19, 30, 1, 580), (25, 86, 0, 674), (35, 83, 0, 584), (39, 81, 0, 636), (43, 31, 1, 640), (47, 82, 0, 643), (50, 32, 1, 644), (69, 33, 1, 647), (72, 34, 1, 667), (75, 85, 0, 650), (82, 27, 0, 659), (86, 28, 0, 663), (97, 26, 0, 670)]
  | 14 => []
  | 15 => []
  | _ => []
/-- classes: the place in the pool, the number (of an array: of what, by xm_ofA) -/
def xm_cl (o : Nat) : List (Nat × Nat × Nat) := match o with
  | 0 => [(7, 10, 113), (10, 11, 1102)]
  | 1 => []
  | 2 => []
  | 3 => [(9, 0, 392), (17, 4, 394)]
  | 4 => []
  | 5 => []
  | 6 => [(9, 0, 419), (18, 4, 421), (40, 1, 423)]
  | 7 => []
  | 8 => []
  | 9 => [(9, 3, 158), (18, 0, 259), (25, 4, 293)]
  | 10 => []
  | 11 => [(9, 9, 121), (16, 8, 152), (23, 3, 366), (30, 6, 368), (36, 7, 370), (45, 2, 386), (56, 5, 413)]
  | 12 => []
  | 13 => []
  | 14 => []
  | 15 => []
  | _ => []
/-- constants -/
def xm_kl (o : Nat) : List (Nat × Value × Nat) := match o with
  | 0 => []
  | 1 => []
  | 2 => []
  | 3 => []
  | 4 => []
  | 5 => []
  | 6 => [(195, .long 65536, 1072), (207, .long 1103515245, 1069), (209, .long 12345, 1070), (211, .long 2147483648, 1071)]
  | 7 => []
  | 8 => [(33, .ref 2, 716), (52, .ref 4, 741), (70, .ref 6, 758), (76, .ref 5, 750), (94, .ref 3, 728)]
  | 9 => []
  | 10 => []
  | 11 => [(290, .int (-1000000), 1061)]
  | 12 => [(116, .long 127978959562098, 1362), (118, .long 114784635872626, 1363), (120, .long 439905906546, 1364), (122, .long 1650814060, 1365), (124, .long 109299962049139, 1366), (126, .long 495690081125, 1367), (128, .long 1752132965, 1368), (130, .long 499967685221, 1369), (132, .long 461414299502, 1370), (134, .long 474214787188, 1267), (136, .long 500219605876, 1371), (158, .int 99999, 1349), (178, .long 7237492, 1385), (198, .long 6385252, 1409), (200, .long 28530, 1410), (202, .long 26982, 1372), (214, .long 448546567013, 1250), (219, .long 123581014175598, 1259), (224, .long 111542219664996, 1260), (229, .long 448311616883, 1261), (234, .long 1684365670, 1262), (239, .long 1633969267, 1263), (244, .long 499850634611, 1264), (246, .long 482854661748, 1265), (251, .long 7104884, 1266), (259, .long 108256318678388, 1268), (264, .long 1952803948, 1269), (315, .long 7, 1435), (317, .long 2, 1440), (385, .long 99, 1550), (393, .long 100, 1574), (404, .long 60, 1599), (412, .long (-1000), 1612), (414, .long 999, 1613), (451, .long 1103515245, 1688), (453, .long 12345, 1689), (455, .long 2147483648, 1690), (457, .long 65536, 1691), (462, .long 10, 1678), (464, .int (-1000000), 1679), (468, .long 3, 1700)]
  | 13 => [(33, .ref 1, 583)]
  | 14 => []
  | 15 => []
  | _ => [(264, .int 65536, 884), (265, .int 1431655765, 862), (266, .int 858993459, 863), (267, .int 252645135, 864)]
def xm_str : List (String × Nat × String) := [("StairNews$HouseReader", 33, "house person errand hates deaf adds takes plant night lit bucket"), ("StairNews$RuleReader", 33, "tell"), ("StairNews$RuleReader", 94, "teller hearer floor bell chairs since home there known night twist"), ("StairNews$RuleReader", 52, "if"), ("StairNews$RuleReader", 76, "not"), ("StairNews$RuleReader", 70, "and or")]
end
section
def xm_c0 : List xm_E := [(0, .new 7, 10, 0, [], .null),
  (3, .dup, 0, 0, [], .null),
  (4, .invokespecial 9, 87, 2, [], .null),
  (7, .astore_n 1, 1, 0, [], .null),
  (8, .new 10, 11, 0, [], .null),
  (11, .dup, 0, 0, [], .null),
  (12, .invokespecial 12, 124, 2, [], .null),
  (15, .astore_n 2, 2, 0, [], .null),
  (16, .iconst 0, 0, 0, [], .int 0),
  (17, .istore_n 3, 3, 0, [], .null),
  (18, .iload_n 3, 3, 0, [], .null),
  (19, .aload_n 0, 0, 0, [], .null),
  (20, .arraylength, 0, 0, [], .null),
  (21, .bipush 6, 0, 0, [], .int 6),
  (23, .isub, 0, 0, [], .null),
  (24, .if_icmp .gt 990, 684, 0, [], .null),
  (27, .aload_n 0, 0, 0, [], .null),
  (28, .iload_n 3, 3, 0, [], .null),
  (29, .iaload, 0, 0, [], .null),
  (30, .bipush 31, 0, 0, [], .int 31),
  (32, .iand, 0, 0, [], .null),
  (33, .tableswitch 975 0 29 #[135, 198, 221, 234, 247, 270, 303, 336, 369, 382, 415, 448, 471, 494, 507, 530, 563, 586, 639, 672, 695, 718, 751, 794, 817, 840, 863, 906, 929, 952], 682, 0, [22, 79, 96, 103, 110, 127, 154, 181, 208, 215, 242, 269, 286, 303, 310, 327, 354, 371, 418, 445, 462, 479, 506, 543, 560, 577, 594, 631, 648, 665], .null),
  (168, .aload_n 1, 1, 0, [], .null),
  (169, .aload_n 0, 0, 0, [], .null),
  (170, .iload_n 3, 3, 0, [], .null),
  (171, .iconst 1, 0, 0, [], .int 1),
  (172, .iadd, 0, 0, [], .null),
  (173, .iaload, 0, 0, [], .null),
  (174, .aload_n 0, 0, 0, [], .null),
  (175, .iload_n 3, 3, 0, [], .null),
  (176, .iconst 2, 0, 0, [], .int 2),
  (177, .iadd, 0, 0, [], .null),
  (178, .iaload, 0, 0, [], .null),
  (179, .aload_n 0, 0, 0, [], .null),
  (180, .iload_n 3, 3, 0, [], .null),
  (181, .iconst 3, 0, 0, [], .int 3),
  (182, .iadd, 0, 0, [], .null),
  (183, .iaload, 0, 0, [], .null),
  (184, .aload_n 0, 0, 0, [], .null),
  (185, .iload_n 3, 3, 0, [], .null),
  (186, .iconst 4, 0, 0, [], .int 4),
  (187, .iadd, 0, 0, [], .null),
  (188, .iaload, 0, 0, [], .null),
  (189, .aload_n 0, 0, 0, [], .null),
  (190, .iload_n 3, 3, 0, [], .null),
  (191, .iconst 5, 0, 0, [], .int 5),
  (192, .iadd, 0, 0, [], .null),
  (193, .iaload, 0, 0, [], .null),
  (194, .invokevirtual 13, 88, 0, [], .null),
  (197, .pop, 0, 0, [], .null),
  (198, .aload_n 2, 2, 0, [], .null),
  (199, .aload_n 0, 0, 0, [], .null),
  (200, .iload_n 3, 3, 0, [], .null),
  (201, .iconst 1, 0, 0, [], .int 1),
  (202, .iadd, 0, 0, [], .null),
  (203, .iaload, 0, 0, [], .null),
  (204, .aload_n 0, 0, 0, [], .null),
  (205, .iload_n 3, 3, 0, [], .null),
  (206, .iconst 2, 0, 0, [], .int 2),
  (207, .iadd, 0, 0, [], .null),
  (208, .iaload, 0, 0, [], .null),
  (209, .aload_n 0, 0, 0, [], .null),
  (210, .iload_n 3, 3, 0, [], .null),
  (211, .iconst 3, 0, 0, [], .int 3),
  (212, .iadd, 0, 0, [], .null),
  (213, .iaload, 0, 0, [], .null),
  (214, .aload_n 0, 0, 0, [], .null),
  (215, .iload_n 3, 3, 0, [], .null),
  (216, .iconst 4, 0, 0, [], .int 4),
  (217, .iadd, 0, 0, [], .null),
  (218, .iaload, 0, 0, [], .null),
  (219, .aload_n 0, 0, 0, [], .null),
  (220, .iload_n 3, 3, 0, [], .null),
  (221, .iconst 5, 0, 0, [], .int 5),
  (222, .iadd, 0, 0, [], .null),
  (223, .iaload, 0, 0, [], .null),
  (224, .invokevirtual 17, 129, 0, [], .null),
  (227, .pop, 0, 0, [], .null),
  (228, .goto 780, 682, 0, [], .null),
  (231, .aload_n 1, 1, 0, [], .null),
  (232, .aload_n 0, 0, 0, [], .null),
  (233, .iload_n 3, 3, 0, [], .null),
  (234, .iconst 1, 0, 0, [], .int 1),
  (235, .iadd, 0, 0, [], .null),
  (236, .iaload, 0, 0, [], .null),
  (237, .invokevirtual 18, 89, 0, [], .null),
  (240, .pop, 0, 0, [], .null),
  (241, .aload_n 2, 2, 0, [], .null),
  (242, .aload_n 0, 0, 0, [], .null),
  (243, .iload_n 3, 3, 0, [], .null),
  (244, .iconst 1, 0, 0, [], .int 1),
  (245, .iadd, 0, 0, [], .null),
  (246, .iaload, 0, 0, [], .null),
  (247, .invokevirtual 22, 130, 0, [], .null),
  (250, .pop, 0, 0, [], .null),
  (251, .goto 757, 682, 0, [], .null),
  (254, .aload_n 1, 1, 0, [], .null),
  (255, .invokevirtual 23, 90, 0, [], .null),
  (258, .pop, 0, 0, [], .null),
  (259, .aload_n 2, 2, 0, [], .null),
  (260, .invokevirtual 27, 169, 0, [], .null),
  (263, .pop, 0, 0, [], .null),
  (264, .goto 744, 682, 0, [], .null),
  (267, .aload_n 1, 1, 0, [], .null),
  (268, .invokevirtual 28, 91, 0, [], .null),
  (271, .pop, 0, 0, [], .null),
  (272, .aload_n 2, 2, 0, [], .null),
  (273, .invokevirtual 31, 168, 0, [], .null),
  (276, .pop, 0, 0, [], .null),
  (277, .goto 731, 682, 0, [], .null),
  (280, .aload_n 1, 1, 0, [], .null),
  (281, .aload_n 0, 0, 0, [], .null),
  (282, .iload_n 3, 3, 0, [], .null),
  (283, .iconst 1, 0, 0, [], .int 1),
  (284, .iadd, 0, 0, [], .null),
  (285, .iaload, 0, 0, [], .null),
  (286, .invokevirtual 32, 92, 0, [], .null),
  (289, .pop, 0, 0, [], .null),
  (290, .aload_n 2, 2, 0, [], .null),
  (291, .aload_n 0, 0, 0, [], .null),
  (292, .iload_n 3, 3, 0, [], .null),
  (293, .iconst 1, 0, 0, [], .int 1),
  (294, .iadd, 0, 0, [], .null),
  (295, .iaload, 0, 0, [], .null),
  (296, .invokevirtual 35, 183, 0, [], .null),
  (299, .pop, 0, 0, [], .null),
  (300, .goto 708, 682, 0, [], .null),
  (303, .aload_n 1, 1, 0, [], .null),
  (304, .aload_n 0, 0, 0, [], .null),
  (305, .iload_n 3, 3, 0, [], .null),
  (306, .iconst 1, 0, 0, [], .int 1),
  (307, .iadd, 0, 0, [], .null),
  (308, .iaload, 0, 0, [], .null),
  (309, .aload_n 0, 0, 0, [], .null),
  (310, .iload_n 3, 3, 0, [], .null),
  (311, .iconst 2, 0, 0, [], .int 2),
  (312, .iadd, 0, 0, [], .null),
  (313, .iaload, 0, 0, [], .null),
  (314, .invokevirtual 36, 93, 0, [], .null),
  (317, .pop, 0, 0, [], .null),
  (318, .aload_n 2, 2, 0, [], .null),
  (319, .aload_n 0, 0, 0, [], .null),
  (320, .iload_n 3, 3, 0, [], .null),
  (321, .iconst 1, 0, 0, [], .int 1),
  (322, .iadd, 0, 0, [], .null),
  (323, .iaload, 0, 0, [], .null),
  (324, .aload_n 0, 0, 0, [], .null),
  (325, .iload_n 3, 3, 0, [], .null),
  (326, .iconst 2, 0, 0, [], .int 2),
  (327, .iadd, 0, 0, [], .null),
  (328, .iaload, 0, 0, [], .null),
  (329, .invokevirtual 40, 184, 0, [], .null),
  (332, .pop, 0, 0, [], .null),
  (333, .goto 675, 682, 0, [], .null),
  (336, .aload_n 1, 1, 0, [], .null),
  (337, .aload_n 0, 0, 0, [], .null),
  (338, .iload_n 3, 3, 0, [], .null),
  (339, .iconst 1, 0, 0, [], .int 1),
  (340, .iadd, 0, 0, [], .null),
  (341, .iaload, 0, 0, [], .null),
  (342, .aload_n 0, 0, 0, [], .null),
  (343, .iload_n 3, 3, 0, [], .null),
  (344, .iconst 2, 0, 0, [], .int 2),
  (345, .iadd, 0, 0, [], .null),
  (346, .iaload, 0, 0, [], .null),
  (347, .invokevirtual 41, 94, 0, [], .null),
  (350, .pop, 0, 0, [], .null),
  (351, .aload_n 2, 2, 0, [], .null),
  (352, .aload_n 0, 0, 0, [], .null),
  (353, .iload_n 3, 3, 0, [], .null),
  (354, .iconst 1, 0, 0, [], .int 1),
  (355, .iadd, 0, 0, [], .null),
  (356, .iaload, 0, 0, [], .null),
  (357, .aload_n 0, 0, 0, [], .null),
  (358, .iload_n 3, 3, 0, [], .null),
  (359, .iconst 2, 0, 0, [], .int 2),
  (360, .iadd, 0, 0, [], .null),
  (361, .iaload, 0, 0, [], .null),
  (362, .invokevirtual 44, 185, 0, [], .null),
  (365, .pop, 0, 0, [], .null),
  (366, .goto 642, 682, 0, [], .null),
  (369, .aload_n 1, 1, 0, [], .null),
  (370, .aload_n 0, 0, 0, [], .null),
  (371, .iload_n 3, 3, 0, [], .null),
  (372, .iconst 1, 0, 0, [], .int 1),
  (373, .iadd, 0, 0, [], .null),
  (374, .iaload, 0, 0, [], .null),
  (375, .aload_n 0, 0, 0, [], .null),
  (376, .iload_n 3, 3, 0, [], .null),
  (377, .iconst 2, 0, 0, [], .int 2),
  (378, .iadd, 0, 0, [], .null),
  (379, .iaload, 0, 0, [], .null),
  (380, .invokevirtual 45, 95, 0, [], .null),
  (383, .pop, 0, 0, [], .null),
  (384, .aload_n 2, 2, 0, [], .null),
  (385, .aload_n 0, 0, 0, [], .null),
  (386, .iload_n 3, 3, 0, [], .null),
  (387, .iconst 1, 0, 0, [], .int 1),
  (388, .iadd, 0, 0, [], .null),
  (389, .iaload, 0, 0, [], .null),
  (390, .aload_n 0, 0, 0, [], .null),
  (391, .iload_n 3, 3, 0, [], .null),
  (392, .iconst 2, 0, 0, [], .int 2),
  (393, .iadd, 0, 0, [], .null),
  (394, .iaload, 0, 0, [], .null),
  (395, .invokevirtual 48, 186, 0, [], .null),
  (398, .pop, 0, 0, [], .null),
  (399, .goto 609, 682, 0, [], .null),
  (402, .aload_n 1, 1, 0, [], .null),
  (403, .invokevirtual 49, 96, 0, [], .null),
  (406, .pop, 0, 0, [], .null),
  (407, .aload_n 2, 2, 0, [], .null),
  (408, .invokevirtual 52, 200, 0, [], .null),
  (411, .pop, 0, 0, [], .null),
  (412, .goto 596, 682, 0, [], .null),
  (415, .aload_n 1, 1, 0, [], .null),
  (416, .aload_n 0, 0, 0, [], .null),
  (417, .iload_n 3, 3, 0, [], .null),
  (418, .iconst 1, 0, 0, [], .int 1),
  (419, .iadd, 0, 0, [], .null),
  (420, .iaload, 0, 0, [], .null),
  (421, .aload_n 0, 0, 0, [], .null),
  (422, .iload_n 3, 3, 0, [], .null),
  (423, .iconst 2, 0, 0, [], .int 2),
  (424, .iadd, 0, 0, [], .null),
  (425, .iaload, 0, 0, [], .null),
  (426, .invokevirtual 53, 97, 0, [], .null),
  (429, .pop, 0, 0, [], .null),
  (430, .aload_n 2, 2, 0, [], .null),
  (431, .aload_n 0, 0, 0, [], .null),
  (432, .iload_n 3, 3, 0, [], .null),
  (433, .iconst 1, 0, 0, [], .int 1),
  (434, .iadd, 0, 0, [], .null),
  (435, .iaload, 0, 0, [], .null),
  (436, .aload_n 0, 0, 0, [], .null),
  (437, .iload_n 3, 3, 0, [], .null),
  (438, .iconst 2, 0, 0, [], .int 2),
  (439, .iadd, 0, 0, [], .null),
  (440, .iaload, 0, 0, [], .null),
  (441, .invokevirtual 57, 202, 0, [], .null),
  (444, .pop, 0, 0, [], .null),
  (445, .goto 563, 682, 0, [], .null),
  (448, .aload_n 1, 1, 0, [], .null),
  (449, .aload_n 0, 0, 0, [], .null),
  (450, .iload_n 3, 3, 0, [], .null),
  (451, .iconst 1, 0, 0, [], .int 1),
  (452, .iadd, 0, 0, [], .null),
  (453, .iaload, 0, 0, [], .null),
  (454, .aload_n 0, 0, 0, [], .null),
  (455, .iload_n 3, 3, 0, [], .null),
  (456, .iconst 2, 0, 0, [], .int 2),
  (457, .iadd, 0, 0, [], .null),
  (458, .iaload, 0, 0, [], .null),
  (459, .invokevirtual 58, 98, 0, [], .null),
  (462, .pop, 0, 0, [], .null),
  (463, .aload_n 2, 2, 0, [], .null),
  (464, .aload_n 0, 0, 0, [], .null),
  (465, .iload_n 3, 3, 0, [], .null),
  (466, .iconst 1, 0, 0, [], .int 1),
  (467, .iadd, 0, 0, [], .null),
  (468, .iaload, 0, 0, [], .null),
  (469, .aload_n 0, 0, 0, [], .null),
  (470, .iload_n 3, 3, 0, [], .null),
  (471, .iconst 2, 0, 0, [], .int 2),
  (472, .iadd, 0, 0, [], .null),
  (473, .iaload, 0, 0, [], .null),
  (474, .invokevirtual 61, 204, 0, [], .null),
  (477, .pop, 0, 0, [], .null),
  (478, .goto 530, 682, 0, [], .null),
  (481, .aload_n 1, 1, 0, [], .null),
  (482, .aload_n 0, 0, 0, [], .null),
  (483, .iload_n 3, 3, 0, [], .null),
  (484, .iconst 1, 0, 0, [], .int 1),
  (485, .iadd, 0, 0, [], .null),
  (486, .iaload, 0, 0, [], .null),
  (487, .invokevirtual 62, 99, 0, [], .null),
  (490, .pop, 0, 0, [], .null),
  (491, .aload_n 2, 2, 0, [], .null),
  (492, .aload_n 0, 0, 0, [], .null),
  (493, .iload_n 3, 3, 0, [], .null),
  (494, .iconst 1, 0, 0, [], .int 1),
  (495, .iadd, 0, 0, [], .null),
  (496, .iaload, 0, 0, [], .null),
  (497, .invokevirtual 65, 205, 0, [], .null),
  (500, .pop, 0, 0, [], .null),
  (501, .goto 507, 682, 0, [], .null),
  (504, .aload_n 1, 1, 0, [], .null),
  (505, .aload_n 0, 0, 0, [], .null),
  (506, .iload_n 3, 3, 0, [], .null),
  (507, .iconst 1, 0, 0, [], .int 1),
  (508, .iadd, 0, 0, [], .null),
  (509, .iaload, 0, 0, [], .null),
  (510, .invokevirtual 66, 100, 0, [], .null),
  (513, .pop, 0, 0, [], .null),
  (514, .aload_n 2, 2, 0, [], .null),
  (515, .aload_n 0, 0, 0, [], .null),
  (516, .iload_n 3, 3, 0, [], .null),
  (517, .iconst 1, 0, 0, [], .int 1),
  (518, .iadd, 0, 0, [], .null),
  (519, .iaload, 0, 0, [], .null),
  (520, .invokevirtual 69, 206, 0, [], .null),
  (523, .pop, 0, 0, [], .null),
  (524, .goto 484, 682, 0, [], .null),
  (527, .aload_n 1, 1, 0, [], .null),
  (528, .invokevirtual 70, 101, 0, [], .null),
  (531, .pop, 0, 0, [], .null),
  (532, .aload_n 2, 2, 0, [], .null),
  (533, .invokevirtual 73, 199, 0, [], .null),
  (536, .pop, 0, 0, [], .null),
  (537, .goto 471, 682, 0, [], .null),
  (540, .aload_n 1, 1, 0, [], .null),
  (541, .aload_n 0, 0, 0, [], .null),
  (542, .iload_n 3, 3, 0, [], .null),
  (543, .iconst 1, 0, 0, [], .int 1),
  (544, .iadd, 0, 0, [], .null),
  (545, .iaload, 0, 0, [], .null),
  (546, .invokevirtual 74, 102, 0, [], .null),
  (549, .pop, 0, 0, [], .null),
  (550, .aload_n 2, 2, 0, [], .null),
  (551, .aload_n 0, 0, 0, [], .null),
  (552, .iload_n 3, 3, 0, [], .null),
  (553, .iconst 1, 0, 0, [], .int 1),
  (554, .iadd, 0, 0, [], .null),
  (555, .iaload, 0, 0, [], .null),
  (556, .invokevirtual 77, 210, 0, [], .null),
  (559, .pop, 0, 0, [], .null),
  (560, .goto 448, 682, 0, [], .null),
  (563, .aload_n 1, 1, 0, [], .null),
  (564, .aload_n 0, 0, 0, [], .null),
  (565, .iload_n 3, 3, 0, [], .null),
  (566, .iconst 1, 0, 0, [], .int 1),
  (567, .iadd, 0, 0, [], .null),
  (568, .iaload, 0, 0, [], .null),
  (569, .aload_n 0, 0, 0, [], .null),
  (570, .iload_n 3, 3, 0, [], .null),
  (571, .iconst 2, 0, 0, [], .int 2),
  (572, .iadd, 0, 0, [], .null),
  (573, .iaload, 0, 0, [], .null),
  (574, .invokevirtual 78, 103, 0, [], .null),
  (577, .pop, 0, 0, [], .null),
  (578, .aload_n 2, 2, 0, [], .null),
  (579, .aload_n 0, 0, 0, [], .null),
  (580, .iload_n 3, 3, 0, [], .null),
  (581, .iconst 1, 0, 0, [], .int 1),
  (582, .iadd, 0, 0, [], .null),
  (583, .iaload, 0, 0, [], .null),
  (584, .aload_n 0, 0, 0, [], .null),
  (585, .iload_n 3, 3, 0, [], .null),
  (586, .iconst 2, 0, 0, [], .int 2),
  (587, .iadd, 0, 0, [], .null),
  (588, .iaload, 0, 0, [], .null),
  (589, .invokevirtual 81, 211, 0, [], .null),
  (592, .pop, 0, 0, [], .null),
  (593, .goto 415, 682, 0, [], .null),
  (596, .aload_n 1, 1, 0, [], .null),
  (597, .aload_n 0, 0, 0, [], .null),
  (598, .iload_n 3, 3, 0, [], .null),
  (599, .iconst 1, 0, 0, [], .int 1),
  (600, .iadd, 0, 0, [], .null),
  (601, .iaload, 0, 0, [], .null),
  (602, .invokevirtual 82, 104, 0, [], .null),
  (605, .pop, 0, 0, [], .null),
  (606, .aload_n 2, 2, 0, [], .null),
  (607, .aload_n 0, 0, 0, [], .null),
  (608, .iload_n 3, 3, 0, [], .null),
  (609, .iconst 1, 0, 0, [], .int 1),
  (610, .iadd, 0, 0, [], .null),
  (611, .iaload, 0, 0, [], .null),
  (612, .invokevirtual 85, 212, 0, [], .null),
  (615, .pop, 0, 0, [], .null),
  (616, .goto 392, 682, 0, [], .null),
  (619, .aload_n 1, 1, 0, [], .null),
  (620, .aload_n 0, 0, 0, [], .null),
  (621, .iload_n 3, 3, 0, [], .null),
  (622, .iconst 1, 0, 0, [], .int 1),
  (623, .iadd, 0, 0, [], .null),
  (624, .iaload, 0, 0, [], .null),
  (625, .aload_n 0, 0, 0, [], .null),
  (626, .iload_n 3, 3, 0, [], .null),
  (627, .iconst 2, 0, 0, [], .int 2),
  (628, .iadd, 0, 0, [], .null),
  (629, .iaload, 0, 0, [], .null),
  (630, .aload_n 0, 0, 0, [], .null),
  (631, .iload_n 3, 3, 0, [], .null),
  (632, .iconst 3, 0, 0, [], .int 3),
  (633, .iadd, 0, 0, [], .null),
  (634, .iaload, 0, 0, [], .null),
  (635, .aload_n 0, 0, 0, [], .null),
  (636, .iload_n 3, 3, 0, [], .null),
  (637, .iconst 4, 0, 0, [], .int 4),
  (638, .iadd, 0, 0, [], .null),
  (639, .iaload, 0, 0, [], .null),
  (640, .invokevirtual 86, 105, 0, [], .null),
  (643, .pop, 0, 0, [], .null),
  (644, .aload_n 2, 2, 0, [], .null),
  (645, .aload_n 0, 0, 0, [], .null),
  (646, .iload_n 3, 3, 0, [], .null),
  (647, .iconst 1, 0, 0, [], .int 1),
  (648, .iadd, 0, 0, [], .null),
  (649, .iaload, 0, 0, [], .null),
  (650, .aload_n 0, 0, 0, [], .null),
  (651, .iload_n 3, 3, 0, [], .null),
  (652, .iconst 2, 0, 0, [], .int 2),
  (653, .iadd, 0, 0, [], .null),
  (654, .iaload, 0, 0, [], .null),
  (655, .aload_n 0, 0, 0, [], .null),
  (656, .iload_n 3, 3, 0, [], .null),
  (657, .iconst 3, 0, 0, [], .int 3),
  (658, .iadd, 0, 0, [], .null),
  (659, .iaload, 0, 0, [], .null),
  (660, .aload_n 0, 0, 0, [], .null),
  (661, .iload_n 3, 3, 0, [], .null),
  (662, .iconst 4, 0, 0, [], .int 4),
  (663, .iadd, 0, 0, [], .null),
  (664, .iaload, 0, 0, [], .null),
  (665, .invokevirtual 90, 215, 0, [], .null),
  (668, .pop, 0, 0, [], .null),
  (669, .goto 339, 682, 0, [], .null),
  (672, .aload_n 1, 1, 0, [], .null),
  (673, .aload_n 0, 0, 0, [], .null),
  (674, .iload_n 3, 3, 0, [], .null),
  (675, .iconst 1, 0, 0, [], .int 1),
  (676, .iadd, 0, 0, [], .null),
  (677, .iaload, 0, 0, [], .null),
  (678, .aload_n 0, 0, 0, [], .null),
  (679, .iload_n 3, 3, 0, [], .null),
  (680, .iconst 2, 0, 0, [], .int 2),
  (681, .iadd, 0, 0, [], .null),
  (682, .iaload, 0, 0, [], .null),
  (683, .invokevirtual 91, 106, 0, [], .null),
  (686, .pop, 0, 0, [], .null),
  (687, .aload_n 2, 2, 0, [], .null),
  (688, .aload_n 0, 0, 0, [], .null),
  (689, .iload_n 3, 3, 0, [], .null),
  (690, .iconst 1, 0, 0, [], .int 1),
  (691, .iadd, 0, 0, [], .null),
  (692, .iaload, 0, 0, [], .null),
  (693, .aload_n 0, 0, 0, [], .null),
  (694, .iload_n 3, 3, 0, [], .null),
  (695, .iconst 2, 0, 0, [], .int 2),
  (696, .iadd, 0, 0, [], .null),
  (697, .iaload, 0, 0, [], .null),
  (698, .invokevirtual 94, 216, 0, [], .null),
  (701, .pop, 0, 0, [], .null),
  (702, .goto 306, 682, 0, [], .null),
  (705, .aload_n 1, 1, 0, [], .null),
  (706, .aload_n 0, 0, 0, [], .null),
  (707, .iload_n 3, 3, 0, [], .null),
  (708, .iconst 1, 0, 0, [], .int 1),
  (709, .iadd, 0, 0, [], .null),
  (710, .iaload, 0, 0, [], .null),
  (711, .invokevirtual 95, 107, 0, [], .null),
  (714, .pop, 0, 0, [], .null),
  (715, .aload_n 2, 2, 0, [], .null),
  (716, .aload_n 0, 0, 0, [], .null),
  (717, .iload_n 3, 3, 0, [], .null),
  (718, .iconst 1, 0, 0, [], .int 1),
  (719, .iadd, 0, 0, [], .null),
  (720, .iaload, 0, 0, [], .null),
  (721, .invokevirtual 98, 222, 0, [], .null),
  (724, .pop, 0, 0, [], .null),
  (725, .goto 283, 682, 0, [], .null),
  (728, .aload_n 1, 1, 0, [], .null),
  (729, .aload_n 0, 0, 0, [], .null),
  (730, .iload_n 3, 3, 0, [], .null),
  (731, .iconst 1, 0, 0, [], .int 1),
  (732, .iadd, 0, 0, [], .null),
  (733, .iaload, 0, 0, [], .null),
  (734, .invokevirtual 99, 108, 0, [], .null),
  (737, .pop, 0, 0, [], .null),
  (738, .aload_n 2, 2, 0, [], .null),
  (739, .aload_n 0, 0, 0, [], .null),
  (740, .iload_n 3, 3, 0, [], .null),
  (741, .iconst 1, 0, 0, [], .int 1),
  (742, .iadd, 0, 0, [], .null),
  (743, .iaload, 0, 0, [], .null),
  (744, .invokevirtual 102, 224, 0, [], .null),
  (747, .pop, 0, 0, [], .null),
  (748, .goto 260, 682, 0, [], .null),
  (751, .aload_n 1, 1, 0, [], .null),
  (752, .aload_n 0, 0, 0, [], .null),
  (753, .iload_n 3, 3, 0, [], .null),
  (754, .iconst 1, 0, 0, [], .int 1),
  (755, .iadd, 0, 0, [], .null),
  (756, .iaload, 0, 0, [], .null),
  (757, .aload_n 0, 0, 0, [], .null),
  (758, .iload_n 3, 3, 0, [], .null),
  (759, .iconst 2, 0, 0, [], .int 2),
  (760, .iadd, 0, 0, [], .null),
  (761, .iaload, 0, 0, [], .null),
  (762, .invokevirtual 103, 109, 0, [], .null),
  (765, .pop, 0, 0, [], .null),
  (766, .aload_n 2, 2, 0, [], .null),
  (767, .aload_n 0, 0, 0, [], .null),
  (768, .iload_n 3, 3, 0, [], .null),
  (769, .iconst 1, 0, 0, [], .int 1),
  (770, .iadd, 0, 0, [], .null),
  (771, .iaload, 0, 0, [], .null),
  (772, .aload_n 0, 0, 0, [], .null),
  (773, .iload_n 3, 3, 0, [], .null),
  (774, .iconst 2, 0, 0, [], .int 2),
  (775, .iadd, 0, 0, [], .null),
  (776, .iaload, 0, 0, [], .null),
  (777, .invokevirtual 106, 225, 0, [], .null),
  (780, .pop, 0, 0, [], .null),
  (781, .goto 227, 682, 0, [], .null),
  (784, .aload_n 1, 1, 0, [], .null),
  (785, .aload_n 0, 0, 0, [], .null),
  (786, .iload_n 3, 3, 0, [], .null),
  (787, .iconst 1, 0, 0, [], .int 1),
  (788, .iadd, 0, 0, [], .null),
  (789, .iaload, 0, 0, [], .null),
  (790, .aload_n 0, 0, 0, [], .null),
  (791, .iload_n 3, 3, 0, [], .null),
  (792, .iconst 2, 0, 0, [], .int 2),
  (793, .iadd, 0, 0, [], .null),
  (794, .iaload, 0, 0, [], .null),
  (795, .aload_n 0, 0, 0, [], .null),
  (796, .iload_n 3, 3, 0, [], .null),
  (797, .iconst 3, 0, 0, [], .int 3),
  (798, .iadd, 0, 0, [], .null),
  (799, .iaload, 0, 0, [], .null),
  (800, .invokevirtual 107, 110, 0, [], .null),
  (803, .pop, 0, 0, [], .null),
  (804, .aload_n 2, 2, 0, [], .null),
  (805, .aload_n 0, 0, 0, [], .null),
  (806, .iload_n 3, 3, 0, [], .null),
  (807, .iconst 1, 0, 0, [], .int 1),
  (808, .iadd, 0, 0, [], .null),
  (809, .iaload, 0, 0, [], .null),
  (810, .aload_n 0, 0, 0, [], .null),
  (811, .iload_n 3, 3, 0, [], .null),
  (812, .iconst 2, 0, 0, [], .int 2),
  (813, .iadd, 0, 0, [], .null),
  (814, .iaload, 0, 0, [], .null),
  (815, .aload_n 0, 0, 0, [], .null),
  (816, .iload_n 3, 3, 0, [], .null),
  (817, .iconst 3, 0, 0, [], .int 3),
  (818, .iadd, 0, 0, [], .null),
  (819, .iaload, 0, 0, [], .null),
  (820, .invokevirtual 111, 226, 0, [], .null),
  (823, .pop, 0, 0, [], .null),
  (824, .goto 184, 682, 0, [], .null),
  (827, .aload_n 1, 1, 0, [], .null),
  (828, .aload_n 0, 0, 0, [], .null),
  (829, .iload_n 3, 3, 0, [], .null),
  (830, .iconst 1, 0, 0, [], .int 1),
  (831, .iadd, 0, 0, [], .null),
  (832, .iaload, 0, 0, [], .null),
  (833, .invokevirtual 112, 111, 0, [], .null),
  (836, .pop, 0, 0, [], .null),
  (837, .aload_n 2, 2, 0, [], .null),
  (838, .aload_n 0, 0, 0, [], .null),
  (839, .iload_n 3, 3, 0, [], .null),
  (840, .iconst 1, 0, 0, [], .int 1),
  (841, .iadd, 0, 0, [], .null),
  (842, .iaload, 0, 0, [], .null),
  (843, .invokevirtual 115, 228, 0, [], .null),
  (846, .pop, 0, 0, [], .null),
  (847, .goto 161, 682, 0, [], .null),
  (850, .aload_n 1, 1, 0, [], .null),
  (851, .aload_n 0, 0, 0, [], .null),
  (852, .iload_n 3, 3, 0, [], .null),
  (853, .iconst 1, 0, 0, [], .int 1),
  (854, .iadd, 0, 0, [], .null),
  (855, .iaload, 0, 0, [], .null),
  (856, .invokevirtual 116, 112, 0, [], .null),
  (859, .pop, 0, 0, [], .null),
  (860, .aload_n 2, 2, 0, [], .null),
  (861, .aload_n 0, 0, 0, [], .null),
  (862, .iload_n 3, 3, 0, [], .null),
  (863, .iconst 1, 0, 0, [], .int 1),
  (864, .iadd, 0, 0, [], .null),
  (865, .iaload, 0, 0, [], .null),
  (866, .invokevirtual 119, 230, 0, [], .null),
  (869, .pop, 0, 0, [], .null),
  (870, .goto 138, 682, 0, [], .null),
  (873, .aload_n 1, 1, 0, [], .null),
  (874, .aload_n 0, 0, 0, [], .null),
  (875, .iload_n 3, 3, 0, [], .null),
  (876, .iconst 1, 0, 0, [], .int 1),
  (877, .iadd, 0, 0, [], .null),
  (878, .iaload, 0, 0, [], .null),
  (879, .invokevirtual 120, 113, 0, [], .null),
  (882, .aload_n 2, 2, 0, [], .null),
  (883, .aload_n 0, 0, 0, [], .null),
  (884, .iload_n 3, 3, 0, [], .null),
  (885, .iconst 1, 0, 0, [], .int 1),
  (886, .iadd, 0, 0, [], .null),
  (887, .iaload, 0, 0, [], .null),
  (888, .invokevirtual 123, 231, 0, [], .null),
  (891, .if_icmp .eq 117, 682, 0, [], .null),
  (894, .iconst 0, 0, 0, [], .int 0),
  (895, .ireturn, 0, 0, [], .null),
  (896, .aload_n 1, 1, 0, [], .null),
  (897, .aload_n 0, 0, 0, [], .null),
  (898, .iload_n 3, 3, 0, [], .null),
  (899, .iconst 1, 0, 0, [], .int 1),
  (900, .iadd, 0, 0, [], .null),
  (901, .iaload, 0, 0, [], .null),
  (902, .aload_n 0, 0, 0, [], .null),
  (903, .iload_n 3, 3, 0, [], .null),
  (904, .iconst 2, 0, 0, [], .int 2),
  (905, .iadd, 0, 0, [], .null),
  (906, .iaload, 0, 0, [], .null),
  (907, .aload_n 0, 0, 0, [], .null),
  (908, .iload_n 3, 3, 0, [], .null),
  (909, .iconst 3, 0, 0, [], .int 3),
  (910, .iadd, 0, 0, [], .null),
  (911, .iaload, 0, 0, [], .null),
  (912, .invokevirtual 124, 114, 0, [], .null),
  (915, .pop, 0, 0, [], .null),
  (916, .aload_n 2, 2, 0, [], .null),
  (917, .aload_n 0, 0, 0, [], .null),
  (918, .iload_n 3, 3, 0, [], .null),
  (919, .iconst 1, 0, 0, [], .int 1),
  (920, .iadd, 0, 0, [], .null),
  (921, .iaload, 0, 0, [], .null),
  (922, .aload_n 0, 0, 0, [], .null),
  (923, .iload_n 3, 3, 0, [], .null),
  (924, .iconst 2, 0, 0, [], .int 2),
  (925, .iadd, 0, 0, [], .null),
  (926, .iaload, 0, 0, [], .null),
  (927, .aload_n 0, 0, 0, [], .null),
  (928, .iload_n 3, 3, 0, [], .null),
  (929, .iconst 3, 0, 0, [], .int 3),
  (930, .iadd, 0, 0, [], .null),
  (931, .iaload, 0, 0, [], .null),
  (932, .invokevirtual 127, 234, 0, [], .null),
  (935, .pop, 0, 0, [], .null),
  (936, .goto 72, 682, 0, [], .null),
  (939, .aload_n 1, 1, 0, [], .null),
  (940, .aload_n 0, 0, 0, [], .null),
  (941, .iload_n 3, 3, 0, [], .null),
  (942, .iconst 1, 0, 0, [], .int 1),
  (943, .iadd, 0, 0, [], .null),
  (944, .iaload, 0, 0, [], .null),
  (945, .invokevirtual 128, 115, 0, [], .null),
  (948, .pop, 0, 0, [], .null),
  (949, .aload_n 2, 2, 0, [], .null),
  (950, .aload_n 0, 0, 0, [], .null),
  (951, .iload_n 3, 3, 0, [], .null),
  (952, .iconst 1, 0, 0, [], .int 1),
  (953, .iadd, 0, 0, [], .null),
  (954, .iaload, 0, 0, [], .null),
  (955, .invokevirtual 131, 235, 0, [], .null),
  (958, .pop, 0, 0, [], .null),
  (959, .goto 49, 682, 0, [], .null),
  (962, .aload_n 1, 1, 0, [], .null),
  (963, .aload_n 0, 0, 0, [], .null),
  (964, .iload_n 3, 3, 0, [], .null),
  (965, .iconst 1, 0, 0, [], .int 1),
  (966, .iadd, 0, 0, [], .null),
  (967, .iaload, 0, 0, [], .null),
  (968, .invokevirtual 132, 116, 0, [], .null),
  (971, .pop, 0, 0, [], .null),
  (972, .aload_n 2, 2, 0, [], .null),
  (973, .aload_n 0, 0, 0, [], .null),
  (974, .iload_n 3, 3, 0, [], .null),
  (975, .iconst 1, 0, 0, [], .int 1),
  (976, .iadd, 0, 0, [], .null),
  (977, .iaload, 0, 0, [], .null),
  (978, .invokevirtual 135, 236, 0, [], .null),
  (981, .pop, 0, 0, [], .null),
  (982, .goto 26, 682, 0, [], .null),
  (985, .aload_n 1, 1, 0, [], .null),
  (986, .aload_n 0, 0, 0, [], .null),
  (987, .iload_n 3, 3, 0, [], .null),
  (988, .iconst 1, 0, 0, [], .int 1),
  (989, .iadd, 0, 0, [], .null),
  (990, .iaload, 0, 0, [], .null),
  (991, .invokevirtual 136, 117, 0, [], .null),
  (994, .pop, 0, 0, [], .null),
  (995, .aload_n 2, 2, 0, [], .null),
  (996, .aload_n 0, 0, 0, [], .null),
  (997, .iload_n 3, 3, 0, [], .null),
  (998, .iconst 1, 0, 0, [], .int 1),
  (999, .iadd, 0, 0, [], .null),
  (1000, .iaload, 0, 0, [], .null),
  (1001, .invokevirtual 139, 237, 0, [], .null),
  (1004, .pop, 0, 0, [], .null),
  (1005, .goto 3, 682, 0, [], .null),
  (1008, .iinc 3 6, 3, 0, [], .int 6),
  (1011, .goto (-993), 10, 0, [], .null),
  (1014, .iconst 1, 0, 0, [], .int 1),
  (1015, .ireturn, 0, 0, [], .null)]
def xm_m0 : xm_M := (0, ⟨"StairNewsLaw", "law", "([I)Z"⟩, code, 4, (Option.some Jvm.ClassFile.FieldType.boolean), 1, 600000, 7302250, xm_c0)
def xm_c1 : List xm_E := [(0, .aload_n 0, 0, 0, [], .null),
  (1, .invokespecial 3, 1000, 0, [], .null),
  (4, .aload_n 0, 0, 0, [], .null),
  (5, .bipush 7, 0, 0, [], .int 7),
  (7, .newarray .int, 100, 0, [], .null),
  (9, .putfield 9, 0, 2, [], .null),
  (12, .aload_n 0, 0, 0, [], .null),
  (13, .bipush 7, 0, 0, [], .int 7),
  (15, .newarray .int, 100, 0, [], .null),
  (17, .putfield 15, 0, 3, [], .null),
  (20, .aload_n 0, 0, 0, [], .null),
  (21, .bipush 7, 0, 0, [], .int 7),
  (23, .newarray .int, 100, 0, [], .null),
  (25, .putfield 18, 0, 4, [], .null),
  (28, .aload_n 0, 0, 0, [], .null),
  (29, .bipush 7, 0, 0, [], .int 7),
  (31, .newarray .int, 100, 0, [], .null),
  (33, .putfield 21, 0, 5, [], .null),
  (36, .return_, 0, 0, [], .null)]
def xm_m1 : xm_M := (1, ⟨"StairNews$Folk", "<init>", "()V"⟩, prog_2_method_1_code, 1, (Option.none : Option Jvm.ClassFile.FieldType), 0, 4, 28, xm_c1)
def xm_c2 : List xm_E := [(0, .aload_n 0, 0, 0, [], .null),
  (1, .aload_n 1, 1, 0, [], .null),
  (2, .getfield 24, 0, 0, [], .null),
  (5, .putfield 24, 0, 0, [], .null),
  (8, .aload_n 0, 0, 0, [], .null),
  (9, .aload_n 1, 1, 0, [], .null),
  (10, .getfield 28, 0, 1, [], .null),
  (13, .putfield 28, 0, 1, [], .null),
  (16, .aload_n 1, 1, 0, [], .null),
  (17, .getfield 9, 0, 2, [], .null),
  (20, .iconst 0, 0, 0, [], .int 0),
  (21, .aload_n 0, 0, 0, [], .null),
  (22, .getfield 9, 0, 2, [], .null),
  (25, .iconst 0, 0, 0, [], .int 0),
  (26, .bipush 7, 0, 0, [], .int 7),
  (28, .invokestatic 31, 1001, 0, [], .null),
  (31, .aload_n 1, 1, 0, [], .null),
  (32, .getfield 15, 0, 3, [], .null),
  (35, .iconst 0, 0, 0, [], .int 0),
  (36, .aload_n 0, 0, 0, [], .null),
  (37, .getfield 15, 0, 3, [], .null),
  (40, .iconst 0, 0, 0, [], .int 0),
  (41, .bipush 7, 0, 0, [], .int 7),
  (43, .invokestatic 31, 1001, 0, [], .null),
  (46, .aload_n 1, 1, 0, [], .null),
  (47, .getfield 18, 0, 4, [], .null),
  (50, .iconst 0, 0, 0, [], .int 0),
  (51, .aload_n 0, 0, 0, [], .null),
  (52, .getfield 18, 0, 4, [], .null),
  (55, .iconst 0, 0, 0, [], .int 0),
  (56, .bipush 7, 0, 0, [], .int 7),
  (58, .invokestatic 31, 1001, 0, [], .null),
  (61, .aload_n 1, 1, 0, [], .null),
  (62, .getfield 21, 0, 5, [], .null),
  (65, .iconst 0, 0, 0, [], .int 0),
  (66, .aload_n 0, 0, 0, [], .null),
  (67, .getfield 21, 0, 5, [], .null),
  (70, .iconst 0, 0, 0, [], .int 0),
  (71, .bipush 7, 0, 0, [], .int 7),
  (73, .invokestatic 31, 1001, 0, [], .null),
  (76, .return_, 0, 0, [], .null)]
def xm_m2 : xm_M := (1, ⟨"StairNews$Folk", "copy", "(LStairNews$Folk;)V"⟩, prog_2_method_2_code, 2, (Option.none : Option Jvm.ClassFile.FieldType), 1, 0, 0, xm_c2)
def xm_c3 : List xm_E := [(0, .aload_n 0, 0, 0, [], .null),
  (1, .iconst 0, 0, 0, [], .int 0),
  (2, .putfield 24, 0, 0, [], .null),
  (5, .aload_n 0, 0, 0, [], .null),
  (6, .aload_n 1, 1, 0, [], .null),
  (7, .getfield 37, 3, 5, [], .null),
  (10, .putfield 28, 0, 1, [], .null),
  (13, .aload_n 1, 1, 0, [], .null),
  (14, .getfield 40, 3, 10, [], .null),
  (17, .iconst 0, 0, 0, [], .int 0),
  (18, .aload_n 0, 0, 0, [], .null),
  (19, .getfield 9, 0, 2, [], .null),
  (22, .iconst 0, 0, 0, [], .int 0),
  (23, .bipush 7, 0, 0, [], .int 7),
  (25, .invokestatic 31, 1001, 0, [], .null),
  (28, .aload_n 1, 1, 0, [], .null),
  (29, .getfield 40, 3, 10, [], .null),
  (32, .iconst 0, 0, 0, [], .int 0),
  (33, .aload_n 0, 0, 0, [], .null),
  (34, .getfield 15, 0, 3, [], .null),
  (37, .iconst 0, 0, 0, [], .int 0),
  (38, .bipush 7, 0, 0, [], .int 7),
  (40, .invokestatic 31, 1001, 0, [], .null),
  (43, .aload_n 1, 1, 0, [], .null),
  (44, .getfield 43, 3, 11, [], .null),
  (47, .iconst 0, 0, 0, [], .int 0),
  (48, .aload_n 0, 0, 0, [], .null),
  (49, .getfield 21, 0, 5, [], .null),
  (52, .iconst 0, 0, 0, [], .int 0),
  (53, .bipush 7, 0, 0, [], .int 7),
  (55, .invokestatic 31, 1001, 0, [], .null),
  (58, .aload_n 0, 0, 0, [], .null),
  (59, .getfield 18, 0, 4, [], .null),
  (62, .iconst 0, 0, 0, [], .int 0),
  (63, .invokestatic 44, 240, 1, [], .null),
  (66, .return_, 0, 0, [], .null)]
def xm_m3 : xm_M := (1, ⟨"StairNews$Folk", "goHome", "(LStairNews$House;)V"⟩, prog_2_method_3_code, 2, (Option.none : Option Jvm.ClassFile.FieldType), 1, 0, 0, xm_c3)
def xm_c4 : List xm_E := [(0, .aload_n 0, 0, 0, [], .null),
  (1, .getfield 9, 0, 2, [], .null),
  (4, .iload_n 1, 1, 0, [], .null),
  (5, .iaload, 0, 0, [], .null),
  (6, .aload_n 0, 0, 0, [], .null),
  (7, .getfield 15, 0, 3, [], .null),
  (10, .iload_n 1, 1, 0, [], .null),
  (11, .iaload, 0, 0, [], .null),
  (12, .if_icmp .ne 7, 11, 0, [], .null),
  (15, .iconst 1, 0, 0, [], .int 1),
  (16, .goto 4, 12, 0, [], .null),
  (19, .iconst 0, 0, 0, [], .int 0),
  (20, .ireturn, 0, 0, [], .null)]
def xm_m4 : xm_M := (1, ⟨"StairNews$Folk", "isStanding", "(I)Z"⟩, prog_2_method_4_code, 2, (Option.some Jvm.ClassFile.FieldType.boolean), 1, 0, 0, xm_c4)
def xm_c5 : List xm_E := [(0, .aload_n 0, 0, 0, [], .null),
  (1, .getfield 15, 0, 3, [], .null),
  (4, .iload_n 1, 1, 0, [], .null),
  (5, .iload_n 2, 2, 0, [], .null),
  (6, .iastore, 0, 0, [], .null),
  (7, .aload_n 0, 0, 0, [], .null),
  (8, .getfield 18, 0, 4, [], .null),
  (11, .iload_n 1, 1, 0, [], .null),
  (12, .aload_n 0, 0, 0, [], .null),
  (13, .getfield 21, 0, 5, [], .null),
  (16, .iload_n 1, 1, 0, [], .null),
  (17, .iaload, 0, 0, [], .null),
  (18, .iastore, 0, 0, [], .null),
  (19, .return_, 0, 0, [], .null)]
def xm_m5 : xm_M := (1, ⟨"StairNews$Folk", "setOut", "(II)V"⟩, prog_2_method_5_code, 3, (Option.none : Option Jvm.ClassFile.FieldType), 2, 0, 0, xm_c5)
def xm_c6 : List xm_E := [(0, .iconst 0, 0, 0, [], .int 0),
  (1, .istore_n 2, 2, 0, [], .null),
  (2, .iconst 0, 0, 0, [], .int 0),
  (3, .istore_n 3, 3, 0, [], .null),
  (4, .iload_n 3, 3, 0, [], .null),
  (5, .iload_n 1, 1, 0, [], .null),
  (6, .if_icmp .ge 27, 21, 0, [], .null),
  (9, .iload_n 2, 2, 0, [], .null),
  (10, .aload_n 0, 0, 0, [], .null),
  (11, .iload_n 3, 3, 0, [], .null),
  (12, .invokevirtual 50, 4, 0, [], .null),
  (15, .ifCond .eq 7, 14, 0, [], .null),
  (18, .iconst 0, 0, 0, [], .int 0),
  (19, .goto 6, 17, 0, [], .null),
  (22, .iconst 1, 0, 0, [], .int 1),
  (23, .iload_n 3, 3, 0, [], .null),
  (24, .ishl, 0, 0, [], .null),
  (25, .ior, 0, 0, [], .null),
  (26, .istore_n 2, 2, 0, [], .null),
  (27, .iinc 3 1, 3, 0, [], .int 1),
  (30, .goto (-26), 4, 0, [], .null),
  (33, .iload_n 2, 2, 0, [], .null),
  (34, .ireturn, 0, 0, [], .null)]
def xm_m6 : xm_M := (1, ⟨"StairNews$Folk", "walkers", "(I)I"⟩, prog_2_method_6_code, 4, (Option.some Jvm.ClassFile.FieldType.int), 1, 0, 0, xm_c6)
def xm_c7 : List xm_E := [(0, .iconst 0, 0, 0, [], .int 0),
  (1, .istore_n 3, 3, 0, [], .null),
  (2, .iconst 0, 0, 0, [], .int 0),
  (3, .istore 4, 4, 0, [], .null),
  (5, .iload 4, 4, 0, [], .null),
  (7, .iload_n 2, 2, 0, [], .null),
  (8, .if_icmp .ge 31, 23, 0, [], .null),
  (11, .iload_n 3, 3, 0, [], .null),
  (12, .aload_n 0, 0, 0, [], .null),
  (13, .getfield 9, 0, 2, [], .null),
  (16, .iload 4, 4, 0, [], .null),
  (18, .iaload, 0, 0, [], .null),
  (19, .iload_n 1, 1, 0, [], .null),
  (20, .if_icmp .ne 10, 18, 0, [], .null),
  (23, .iconst 1, 0, 0, [], .int 1),
  (24, .iload 4, 4, 0, [], .null),
  (26, .ishl, 0, 0, [], .null),
  (27, .goto 4, 19, 0, [], .null),
  (30, .iconst 0, 0, 0, [], .int 0),
  (31, .ior, 0, 0, [], .null),
  (32, .istore_n 3, 3, 0, [], .null),
  (33, .iinc 4 1, 4, 0, [], .int 1),
  (36, .goto (-31), 4, 0, [], .null),
  (39, .iload_n 3, 3, 0, [], .null),
  (40, .ireturn, 0, 0, [], .null)]
def xm_m7 : xm_M := (1, ⟨"StairNews$Folk", "seenOn", "(II)I"⟩, prog_2_method_7_code, 5, (Option.some Jvm.ClassFile.FieldType.int), 2, 0, 0, xm_c7)
def xm_c8 : List xm_E := [(0, .aload_n 0, 0, 0, [], .null),
  (1, .aload_n 1, 1, 0, [], .null),
  (2, .invokevirtual 54, 9, 0, [], .null),
  (5, .lconst 0, 0, 0, [], .long 0),
  (6, .lstore_n 2, 2, 0, [], .null),
  (7, .iconst 0, 0, 0, [], .int 0),
  (8, .istore 4, 4, 0, [], .null),
  (10, .iload 4, 4, 0, [], .null),
  (12, .aload_n 1, 1, 0, [], .null),
  (13, .getfield 58, 3, 1, [], .null),
  (16, .if_icmp .ge 45, 34, 0, [], .null),
  (19, .aload_n 0, 0, 0, [], .null),
  (20, .iload 4, 4, 0, [], .null),
  (22, .invokevirtual 50, 4, 0, [], .null),
  (25, .ifCond .ne 12, 19, 0, [], .null),
  (28, .aload_n 0, 0, 0, [], .null),
  (29, .iload 4, 4, 0, [], .null),
  (31, .invokevirtual 61, 10, 0, [], .null),
  (34, .ifCond .eq 21, 32, 0, [], .null),
  (37, .lload_n 2, 2, 0, [], .null),
  (38, .lconst 1, 0, 0, [], .long 1),
  (39, .aload_n 0, 0, 0, [], .null),
  (40, .getfield 9, 0, 2, [], .null),
  (43, .iload 4, 4, 0, [], .null),
  (45, .iaload, 0, 0, [], .null),
  (46, .bipush 7, 0, 0, [], .int 7),
  (48, .imul, 0, 0, [], .null),
  (49, .iload 4, 4, 0, [], .null),
  (51, .iadd, 0, 0, [], .null),
  (52, .lshl, 0, 0, [], .null),
  (53, .lor, 0, 0, [], .null),
  (54, .lstore_n 2, 2, 0, [], .null),
  (55, .iinc 4 1, 4, 0, [], .int 1),
  (58, .goto (-48), 7, 0, [], .null),
  (61, .aload_n 0, 0, 0, [], .null),
  (62, .aload_n 0, 0, 0, [], .null),
  (63, .getfield 24, 0, 0, [], .null),
  (66, .iconst 1, 0, 0, [], .int 1),
  (67, .iadd, 0, 0, [], .null),
  (68, .sipush 999, 0, 0, [], .int 999),
  (71, .invokestatic 64, 1002, 0, [], .null),
  (74, .putfield 24, 0, 0, [], .null),
  (77, .lload_n 2, 2, 0, [], .null),
  (78, .lreturn, 0, 0, [], .null)]
def xm_m8 : xm_M := (1, ⟨"StairNews$Folk", "step", "(LStairNews$House;)J"⟩, prog_2_method_8_code, 5, (Option.some Jvm.ClassFile.FieldType.long), 1, 0, 0, xm_c8)
def xm_c9 : List xm_E := [(0, .iconst 0, 0, 0, [], .int 0),
  (1, .istore_n 2, 2, 0, [], .null),
  (2, .aload_n 1, 1, 0, [], .null),
  (3, .getfield 70, 3, 2, [], .null),
  (6, .iconst 1, 0, 0, [], .int 1),
  (7, .isub, 0, 0, [], .null),
  (8, .istore_n 3, 3, 0, [], .null),
  (9, .iload_n 3, 3, 0, [], .null),
  (10, .ifCond .lt 87, 55, 0, [], .null),
  (13, .aload_n 1, 1, 0, [], .null),
  (14, .getfield 73, 3, 14, [], .null),
  (17, .iload_n 3, 3, 0, [], .null),
  (18, .iaload, 0, 0, [], .null),
  (19, .istore 4, 4, 0, [], .null),
  (21, .aload_n 1, 1, 0, [], .null),
  (22, .getfield 76, 3, 16, [], .null),
  (25, .iload_n 3, 3, 0, [], .null),
  (26, .iaload, 0, 0, [], .null),
  (27, .aload_n 0, 0, 0, [], .null),
  (28, .getfield 24, 0, 0, [], .null),
  (31, .if_icmp .ne 60, 53, 0, [], .null),
  (34, .iload_n 2, 2, 0, [], .null),
  (35, .iload 4, 4, 0, [], .null),
  (37, .invokestatic 79, 120, 3, [], .null),
  (40, .iconst 1, 0, 0, [], .int 1),
  (41, .if_icmp .ne 6, 27, 0, [], .null),
  (44, .goto 47, 53, 0, [], .null),
  (47, .iload_n 2, 2, 0, [], .null),
  (48, .iconst 1, 0, 0, [], .int 1),
  (49, .iload 4, 4, 0, [], .null),
  (51, .ishl, 0, 0, [], .null),
  (52, .ior, 0, 0, [], .null),
  (53, .istore_n 2, 2, 0, [], .null),
  (54, .aload_n 0, 0, 0, [], .null),
  (55, .iload 4, 4, 0, [], .null),
  (57, .invokevirtual 50, 4, 0, [], .null),
  (60, .ifCond .eq 31, 53, 0, [], .null),
  (63, .aload_n 0, 0, 0, [], .null),
  (64, .getfield 9, 0, 2, [], .null),
  (67, .iload 4, 4, 0, [], .null),
  (69, .iaload, 0, 0, [], .null),
  (70, .aload_n 1, 1, 0, [], .null),
  (71, .getfield 82, 3, 15, [], .null),
  (74, .iload_n 3, 3, 0, [], .null),
  (75, .iaload, 0, 0, [], .null),
  (76, .if_icmp .eq 15, 53, 0, [], .null),
  (79, .aload_n 0, 0, 0, [], .null),
  (80, .iload 4, 4, 0, [], .null),
  (82, .aload_n 1, 1, 0, [], .null),
  (83, .getfield 82, 3, 15, [], .null),
  (86, .iload_n 3, 3, 0, [], .null),
  (87, .iaload, 0, 0, [], .null),
  (88, .invokevirtual 85, 5, 0, [], .null),
  (91, .iinc 3 (-1), 3, 0, [], .int (-1)),
  (94, .goto (-85), 7, 0, [], .null),
  (97, .return_, 0, 0, [], .null)]
def xm_m9 : xm_M := (1, ⟨"StairNews$Folk", "startErrands", "(LStairNews$House;)V"⟩, prog_2_method_9_code, 5, (Option.none : Option Jvm.ClassFile.FieldType), 1, 0, 0, xm_c9)
def xm_c10 : List xm_E := [(0, .aload_n 0, 0, 0, [], .null),
  (1, .getfield 18, 0, 4, [], .null),
  (4, .iload_n 1, 1, 0, [], .null),
  (5, .dup2, 0, 0, [], .null),
  (6, .iaload, 0, 0, [], .null),
  (7, .iconst 1, 0, 0, [], .int 1),
  (8, .isub, 0, 0, [], .null),
  (9, .iastore, 0, 0, [], .null),
  (10, .aload_n 0, 0, 0, [], .null),
  (11, .getfield 18, 0, 4, [], .null),
  (14, .iload_n 1, 1, 0, [], .null),
  (15, .iaload, 0, 0, [], .null),
  (16, .ifCond .le 5, 15, 0, [], .null),
  (19, .iconst 0, 0, 0, [], .int 0),
  (20, .ireturn, 0, 0, [], .null),
  (21, .aload_n 0, 0, 0, [], .null),
  (22, .getfield 9, 0, 2, [], .null),
  (25, .iload_n 1, 1, 0, [], .null),
  (26, .dup2, 0, 0, [], .null),
  (27, .iaload, 0, 0, [], .null),
  (28, .aload_n 0, 0, 0, [], .null),
  (29, .getfield 15, 0, 3, [], .null),
  (32, .iload_n 1, 1, 0, [], .null),
  (33, .iaload, 0, 0, [], .null),
  (34, .aload_n 0, 0, 0, [], .null),
  (35, .getfield 9, 0, 2, [], .null),
  (38, .iload_n 1, 1, 0, [], .null),
  (39, .iaload, 0, 0, [], .null),
  (40, .if_icmp .le 7, 31, 0, [], .null),
  (43, .iconst 1, 0, 0, [], .int 1),
  (44, .goto 4, 32, 0, [], .null),
  (47, .iconst (-1), 0, 0, [], .int (-1)),
  (48, .iadd, 0, 0, [], .null),
  (49, .iastore, 0, 0, [], .null),
  (50, .aload_n 0, 0, 0, [], .null),
  (51, .getfield 18, 0, 4, [], .null),
  (54, .iload_n 1, 1, 0, [], .null),
  (55, .aload_n 0, 0, 0, [], .null),
  (56, .iload_n 1, 1, 0, [], .null),
  (57, .invokevirtual 50, 4, 0, [], .null),
  (60, .ifCond .eq 7, 43, 0, [], .null),
  (63, .iconst 0, 0, 0, [], .int 0),
  (64, .goto 9, 47, 0, [], .null),
  (67, .aload_n 0, 0, 0, [], .null),
  (68, .getfield 21, 0, 5, [], .null),
  (71, .iload_n 1, 1, 0, [], .null),
  (72, .iaload, 0, 0, [], .null),
  (73, .iastore, 0, 0, [], .null),
  (74, .iconst 1, 0, 0, [], .int 1),
  (75, .ireturn, 0, 0, [], .null)]
def xm_m10 : xm_M := (1, ⟨"StairNews$Folk", "endsFlight", "(I)Z"⟩, prog_2_method_10_code, 2, (Option.some Jvm.ClassFile.FieldType.boolean), 1, 0, 0, xm_c10)
def xm_c11 : List xm_E := [(0, .aload_n 0, 0, 0, [], .null),
  (1, .invokespecial 3, 1000, 0, [], .null),
  (4, .aload_n 0, 0, 0, [], .null),
  (5, .bipush 11, 0, 0, [], .int 11),
  (7, .newarray .long, 102, 0, [], .null),
  (9, .putfield 11, 1, 4, [], .null),
  (12, .aload_n 0, 0, 0, [], .null),
  (13, .bipush 26, 0, 0, [], .int 26),
  (15, .newarray .long, 102, 0, [], .null),
  (17, .putfield 15, 1, 5, [], .null),
  (20, .aload_n 0, 0, 0, [], .null),
  (21, .aload_n 1, 1, 0, [], .null),
  (22, .putfield 18, 1, 0, [], .null),
  (25, .return_, 0, 0, [], .null)]
def xm_m11 : xm_M := (2, ⟨"StairNews$Gossip", "<init>", "(LStairNews$House;)V"⟩, prog_3_method_1_code, 2, (Option.none : Option Jvm.ClassFile.FieldType), 1, 2, 37, xm_c11)
def xm_c12 : List xm_E := [(0, .iconst 1, 0, 0, [], .int 1),
  (1, .aload_n 0, 0, 0, [], .null),
  (2, .getfield 18, 1, 0, [], .null),
  (5, .getfield 22, 3, 1, [], .null),
  (8, .ishl, 0, 0, [], .null),
  (9, .iconst 1, 0, 0, [], .int 1),
  (10, .isub, 0, 0, [], .null),
  (11, .istore_n 2, 2, 0, [], .null),
  (12, .aload_n 1, 1, 0, [], .null),
  (13, .getfield 28, 4, 0, [], .null),
  (16, .ifCond .eq 22, 22, 0, [], .null),
  (19, .aload_n 1, 1, 0, [], .null),
  (20, .getfield 28, 4, 0, [], .null),
  (23, .aload_n 0, 0, 0, [], .null),
  (24, .getfield 33, 1, 3, [], .null),
  (27, .ior, 0, 0, [], .null),
  (28, .iload_n 2, 2, 0, [], .null),
  (29, .iand, 0, 0, [], .null),
  (30, .iload_n 2, 2, 0, [], .null),
  (31, .if_icmp .eq 7, 22, 0, [], .null),
  (34, .iconst 1, 0, 0, [], .int 1),
  (35, .goto 4, 23, 0, [], .null),
  (38, .iconst 0, 0, 0, [], .int 0),
  (39, .ireturn, 0, 0, [], .null)]
def xm_m12 : xm_M := (2, ⟨"StairNews$Gossip", "canSpread", "(LStairNews$Lore;)Z"⟩, prog_3_method_2_code, 3, (Option.some Jvm.ClassFile.FieldType.boolean), 1, 0, 0, xm_c12)
def xm_c13 : List xm_E := [(0, .aload_n 1, 1, 0, [], .null),
  (1, .getfield 28, 4, 0, [], .null),
  (4, .istore 5, 5, 0, [], .null),
  (6, .aload_n 0, 0, 0, [], .null),
  (7, .getfield 18, 1, 0, [], .null),
  (10, .getfield 36, 3, 7, [], .null),
  (13, .iconst (-1), 0, 0, [], .int (-1)),
  (14, .if_icmp .eq 19, 15, 0, [], .null),
  (17, .iload 4, 4, 0, [], .null),
  (19, .aload_n 0, 0, 0, [], .null),
  (20, .getfield 18, 1, 0, [], .null),
  (23, .getfield 36, 3, 7, [], .null),
  (26, .if_icmp .lt 7, 15, 0, [], .null),
  (29, .iconst 1, 0, 0, [], .int 1),
  (30, .goto 4, 16, 0, [], .null),
  (33, .iconst 0, 0, 0, [], .int 0),
  (34, .istore 6, 6, 0, [], .null),
  (36, .iload 6, 6, 0, [], .null),
  (38, .ifCond .eq 20, 28, 0, [], .null),
  (41, .aload_n 0, 0, 0, [], .null),
  (42, .getfield 39, 1, 2, [], .null),
  (45, .aload_n 0, 0, 0, [], .null),
  (46, .getfield 18, 1, 0, [], .null),
  (49, .getfield 42, 3, 6, [], .null),
  (52, .iconst (-1), 0, 0, [], .int (-1)),
  (53, .ixor, 0, 0, [], .null),
  (54, .ior, 0, 0, [], .null),
  (55, .goto 7, 30, 0, [], .null),
  (58, .aload_n 0, 0, 0, [], .null),
  (59, .getfield 39, 1, 2, [], .null),
  (62, .istore 7, 7, 0, [], .null),
  (64, .aload_n 0, 0, 0, [], .null),
  (65, .getfield 11, 1, 4, [], .null),
  (68, .iconst 3, 0, 0, [], .int 3),
  (69, .iload 4, 4, 0, [], .null),
  (71, .i2l, 0, 0, [], .null),
  (72, .lastore, 0, 0, [], .null),
  (73, .aload_n 0, 0, 0, [], .null),
  (74, .getfield 11, 1, 4, [], .null),
  (77, .bipush 8, 0, 0, [], .int 8),
  (79, .iload 5, 5, 0, [], .null),
  (81, .invokestatic 45, 239, 1, [], .null),
  (84, .i2l, 0, 0, [], .null),
  (85, .lastore, 0, 0, [], .null),
  (86, .aload_n 0, 0, 0, [], .null),
  (87, .getfield 11, 1, 4, [], .null),
  (90, .bipush 9, 0, 0, [], .int 9),
  (92, .iload 6, 6, 0, [], .null),
  (94, .ifCond .eq 7, 51, 0, [], .null),
  (97, .lconst 1, 0, 0, [], .long 1),
  (98, .goto 4, 52, 0, [], .null),
  (101, .lconst 0, 0, 0, [], .long 0),
  (102, .lastore, 0, 0, [], .null),
  (103, .iconst 0, 0, 0, [], .int 0),
  (104, .istore 8, 8, 0, [], .null),
  (106, .iload 8, 8, 0, [], .null),
  (108, .aload_n 0, 0, 0, [], .null),
  (109, .getfield 18, 1, 0, [], .null),
  (112, .getfield 51, 3, 0, [], .null),
  (115, .if_icmp .ge 236, 176, 0, [], .null),
  (118, .lload_n 2, 2, 0, [], .null),
  (119, .iload 8, 8, 0, [], .null),
  (121, .invokestatic 54, 14, 1, [], .null),
  (124, .istore 9, 9, 0, [], .null),
  (126, .iload 9, 9, 0, [], .null),
  (128, .iload 5, 5, 0, [], .null),
  (130, .iconst (-1), 0, 0, [], .int (-1)),
  (131, .ixor, 0, 0, [], .null),
  (132, .iand, 0, 0, [], .null),
  (133, .aload_n 0, 0, 0, [], .null),
  (134, .getfield 33, 1, 3, [], .null),
  (137, .iconst (-1), 0, 0, [], .int (-1)),
  (138, .ixor, 0, 0, [], .null),
  (139, .iand, 0, 0, [], .null),
  (140, .istore 10, 10, 0, [], .null),
  (142, .iload 10, 10, 0, [], .null),
  (144, .ifCond .ne 6, 78, 0, [], .null),
  (147, .goto 198, 174, 0, [], .null),
  (150, .iload 7, 7, 0, [], .null),
  (152, .iload 8, 8, 0, [], .null),
  (154, .invokestatic 58, 120, 3, [], .null),
  (157, .iconst 1, 0, 0, [], .int 1),
  (158, .if_icmp .ne 7, 85, 0, [], .null),
  (161, .iconst 0, 0, 0, [], .int 0),
  (162, .goto 8, 88, 0, [], .null),
  (165, .iload 9, 9, 0, [], .null),
  (167, .iload 5, 5, 0, [], .null),
  (169, .iand, 0, 0, [], .null),
  (170, .istore 11, 11, 0, [], .null),
  (172, .iload 8, 8, 0, [], .null),
  (174, .aload_n 0, 0, 0, [], .null),
  (175, .getfield 18, 1, 0, [], .null),
  (178, .getfield 62, 3, 9, [], .null),
  (181, .if_icmp .ne 20, 102, 0, [], .null),
  (184, .lload_n 2, 2, 0, [], .null),
  (185, .aload_n 0, 0, 0, [], .null),
  (186, .getfield 18, 1, 0, [], .null),
  (189, .getfield 65, 3, 8, [], .null),
  (192, .invokestatic 54, 14, 1, [], .null),
  (195, .iload 5, 5, 0, [], .null),
  (197, .iand, 0, 0, [], .null),
  (198, .goto 4, 103, 0, [], .null),
  (201, .iconst 0, 0, 0, [], .int 0),
  (202, .istore 12, 12, 0, [], .null),
  (204, .iload 11, 11, 0, [], .null),
  (206, .iload 12, 12, 0, [], .null),
  (208, .ior, 0, 0, [], .null),
  (209, .ifCond .ne 6, 109, 0, [], .null),
  (212, .goto 133, 174, 0, [], .null),
  (215, .aload_n 0, 0, 0, [], .null),
  (216, .getfield 11, 1, 4, [], .null),
  (219, .iconst 2, 0, 0, [], .int 2),
  (220, .iload 8, 8, 0, [], .null),
  (222, .i2l, 0, 0, [], .null),
  (223, .lastore, 0, 0, [], .null),
  (224, .aload_n 0, 0, 0, [], .null),
  (225, .getfield 11, 1, 4, [], .null),
  (228, .bipush 7, 0, 0, [], .int 7),
  (230, .iload 9, 9, 0, [], .null),
  (232, .invokestatic 45, 239, 1, [], .null),
  (235, .iconst 2, 0, 0, [], .int 2),
  (236, .isub, 0, 0, [], .null),
  (237, .i2l, 0, 0, [], .null),
  (238, .lastore, 0, 0, [], .null),
  (239, .iconst 0, 0, 0, [], .int 0),
  (240, .istore 13, 13, 0, [], .null),
  (242, .iload 13, 13, 0, [], .null),
  (244, .aload_n 0, 0, 0, [], .null),
  (245, .getfield 18, 1, 0, [], .null),
  (248, .getfield 22, 3, 1, [], .null),
  (251, .if_icmp .ge 94, 174, 0, [], .null),
  (254, .iload 10, 10, 0, [], .null),
  (256, .iload 13, 13, 0, [], .null),
  (258, .invokestatic 58, 120, 3, [], .null),
  (261, .ifCond .ne 6, 136, 0, [], .null),
  (264, .goto 75, 172, 0, [], .null),
  (267, .iload 11, 11, 0, [], .null),
  (269, .ifCond .ne 7, 140, 0, [], .null),
  (272, .iconst (-1), 0, 0, [], .int (-1)),
  (273, .goto 12, 145, 0, [], .null),
  (276, .aload_n 0, 0, 0, [], .null),
  (277, .aload_n 1, 1, 0, [], .null),
  (278, .iload 13, 13, 0, [], .null),
  (280, .iload 11, 11, 0, [], .null),
  (282, .invokevirtual 68, 15, 0, [], .null),
  (285, .istore 14, 14, 0, [], .null),
  (287, .iload 14, 14, 0, [], .null),
  (289, .iconst (-1), 0, 0, [], .int (-1)),
  (290, .if_icmp .ne 15, 154, 0, [], .null),
  (293, .iload 12, 12, 0, [], .null),
  (295, .ifCond .eq 10, 154, 0, [], .null),
  (298, .iload 12, 12, 0, [], .null),
  (300, .invokestatic 72, 238, 1, [], .null),
  (303, .istore 14, 14, 0, [], .null),
  (305, .iload 14, 14, 0, [], .null),
  (307, .iconst (-1), 0, 0, [], .int (-1)),
  (308, .if_icmp .eq 31, 172, 0, [], .null),
  (311, .aload_n 1, 1, 0, [], .null),
  (312, .iload 13, 13, 0, [], .null),
  (314, .aload_n 1, 1, 0, [], .null),
  (315, .getfield 75, 4, 2, [], .null),
  (318, .iload 14, 14, 0, [], .null),
  (320, .iaload, 0, 0, [], .null),
  (321, .aload_n 0, 0, 0, [], .null),
  (322, .getfield 18, 1, 0, [], .null),
  (325, .getfield 79, 3, 13, [], .null),
  (328, .iload 14, 14, 0, [], .null),
  (330, .iaload, 0, 0, [], .null),
  (331, .iadd, 0, 0, [], .null),
  (332, .iload 14, 14, 0, [], .null),
  (334, .iload 4, 4, 0, [], .null),
  (336, .invokevirtual 82, 38, 0, [], .null),
  (339, .iinc 13 1, 13, 0, [], .int 1),
  (342, .goto (-100), 126, 0, [], .null),
  (345, .iinc 8 1, 8, 0, [], .int 1),
  (348, .goto (-242), 55, 0, [], .null),
  (351, .aload_n 1, 1, 0, [], .null),
  (352, .getfield 28, 4, 0, [], .null),
  (355, .iload 5, 5, 0, [], .null),
  (357, .iconst (-1), 0, 0, [], .int (-1)),
  (358, .ixor, 0, 0, [], .null),
  (359, .iand, 0, 0, [], .null),
  (360, .ireturn, 0, 0, [], .null)]
def xm_m13 : xm_M := (2, ⟨"StairNews$Gossip", "ring", "(LStairNews$Lore;JI)I"⟩, prog_3_method_3_code, 15, (Option.some Jvm.ClassFile.FieldType.int), 3, 0, 0, xm_c13)
def xm_c14 : List xm_E := [(0, .lload_n 0, 0, 0, [], .null),
  (1, .iload_n 2, 2, 0, [], .null),
  (2, .bipush 7, 0, 0, [], .int 7),
  (4, .imul, 0, 0, [], .null),
  (5, .lshr, 0, 0, [], .null),
  (6, .l2i, 0, 0, [], .null),
  (7, .bipush 127, 0, 0, [], .int 127),
  (9, .iand, 0, 0, [], .null),
  (10, .ireturn, 0, 0, [], .null)]
def xm_m14 : xm_M := (2, ⟨"StairNews$Gossip", "peopleOn", "(JI)I"⟩, prog_3_method_4_code, 3, (Option.some Jvm.ClassFile.FieldType.int), 2, 0, 0, xm_c14)
def xm_c15 : List xm_E := [(0, .aload_n 0, 0, 0, [], .null),
  (1, .getfield 11, 1, 4, [], .null),
  (4, .iconst 1, 0, 0, [], .int 1),
  (5, .iload_n 2, 2, 0, [], .null),
  (6, .i2l, 0, 0, [], .null),
  (7, .lastore, 0, 0, [], .null),
  (8, .aload_n 0, 0, 0, [], .null),
  (9, .getfield 11, 1, 4, [], .null),
  (12, .bipush 6, 0, 0, [], .int 6),
  (14, .aload_n 0, 0, 0, [], .null),
  (15, .getfield 18, 1, 0, [], .null),
  (18, .getfield 86, 3, 10, [], .null),
  (21, .iload_n 2, 2, 0, [], .null),
  (22, .iaload, 0, 0, [], .null),
  (23, .i2l, 0, 0, [], .null),
  (24, .aload_n 0, 0, 0, [], .null),
  (25, .getfield 11, 1, 4, [], .null),
  (28, .iconst 2, 0, 0, [], .int 2),
  (29, .laload, 0, 0, [], .null),
  (30, .lcmp, 0, 0, [], .null),
  (31, .ifCond .ne 7, 23, 0, [], .null),
  (34, .lconst 1, 0, 0, [], .long 1),
  (35, .goto 4, 24, 0, [], .null),
  (38, .lconst 0, 0, 0, [], .long 0),
  (39, .lastore, 0, 0, [], .null),
  (40, .iconst 0, 0, 0, [], .int 0),
  (41, .istore 4, 4, 0, [], .null),
  (43, .iload 4, 4, 0, [], .null),
  (45, .aload_n 0, 0, 0, [], .null),
  (46, .getfield 18, 1, 0, [], .null),
  (49, .getfield 22, 3, 1, [], .null),
  (52, .if_icmp .ge 146, 111, 0, [], .null),
  (55, .iload_n 3, 3, 0, [], .null),
  (56, .iload 4, 4, 0, [], .null),
  (58, .invokestatic 58, 120, 3, [], .null),
  (61, .ifCond .eq 131, 109, 0, [], .null),
  (64, .aload_n 0, 0, 0, [], .null),
  (65, .getfield 18, 1, 0, [], .null),
  (68, .getfield 89, 3, 12, [], .null),
  (71, .iload_n 2, 2, 0, [], .null),
  (72, .iaload, 0, 0, [], .null),
  (73, .iload 4, 4, 0, [], .null),
  (75, .invokestatic 58, 120, 3, [], .null),
  (78, .iconst 1, 0, 0, [], .int 1),
  (79, .if_icmp .ne 18, 53, 0, [], .null),
  (82, .aload_n 0, 0, 0, [], .null),
  (83, .getfield 11, 1, 4, [], .null),
  (86, .bipush 7, 0, 0, [], .int 7),
  (88, .laload, 0, 0, [], .null),
  (89, .lconst 0, 0, 0, [], .long 0),
  (90, .lcmp, 0, 0, [], .null),
  (91, .ifCond .gt 6, 53, 0, [], .null),
  (94, .goto 98, 109, 0, [], .null),
  (97, .aload_n 0, 0, 0, [], .null),
  (98, .getfield 92, 1, 1, [], .null),
  (101, .ifnonnull 6, 58, 0, [], .null),
  (104, .iload 4, 4, 0, [], .null),
  (106, .ireturn, 0, 0, [], .null),
  (107, .aload_n 0, 0, 0, [], .null),
  (108, .getfield 11, 1, 4, [], .null),
  (111, .iconst 0, 0, 0, [], .int 0),
  (112, .iload 4, 4, 0, [], .null),
  (114, .i2l, 0, 0, [], .null),
  (115, .lastore, 0, 0, [], .null),
  (116, .aload_n 0, 0, 0, [], .null),
  (117, .getfield 11, 1, 4, [], .null),
  (120, .iconst 4, 0, 0, [], .int 4),
  (121, .aload_n 1, 1, 0, [], .null),
  (122, .getfield 75, 4, 2, [], .null),
  (125, .iload 4, 4, 0, [], .null),
  (127, .iaload, 0, 0, [], .null),
  (128, .i2l, 0, 0, [], .null),
  (129, .lastore, 0, 0, [], .null),
  (130, .aload_n 0, 0, 0, [], .null),
  (131, .getfield 11, 1, 4, [], .null),
  (134, .iconst 5, 0, 0, [], .int 5),
  (135, .aload_n 0, 0, 0, [], .null),
  (136, .getfield 11, 1, 4, [], .null),
  (139, .iconst 3, 0, 0, [], .int 3),
  (140, .laload, 0, 0, [], .null),
  (141, .aload_n 1, 1, 0, [], .null),
  (142, .getfield 96, 4, 1, [], .null),
  (145, .iload 4, 4, 0, [], .null),
  (147, .iaload, 0, 0, [], .null),
  (148, .i2l, 0, 0, [], .null),
  (149, .lsub, 0, 0, [], .null),
  (150, .lastore, 0, 0, [], .null),
  (151, .aload_n 0, 0, 0, [], .null),
  (152, .getfield 11, 1, 4, [], .null),
  (155, .bipush 10, 0, 0, [], .int 10),
  (157, .aload_n 0, 0, 0, [], .null),
  (158, .getfield 18, 1, 0, [], .null),
  (161, .getfield 79, 3, 13, [], .null),
  (164, .iload 4, 4, 0, [], .null),
  (166, .iaload, 0, 0, [], .null),
  (167, .i2l, 0, 0, [], .null),
  (168, .lastore, 0, 0, [], .null),
  (169, .aload_n 0, 0, 0, [], .null),
  (170, .getfield 92, 1, 1, [], .null),
  (173, .aload_n 0, 0, 0, [], .null),
  (174, .getfield 11, 1, 4, [], .null),
  (177, .aload_n 0, 0, 0, [], .null),
  (178, .getfield 15, 1, 5, [], .null),
  (181, .invokevirtual 99, 63, 0, [], .null),
  (184, .lconst 0, 0, 0, [], .long 0),
  (185, .lcmp, 0, 0, [], .null),
  (186, .ifCond .le 6, 109, 0, [], .null),
  (189, .iload 4, 4, 0, [], .null),
  (191, .ireturn, 0, 0, [], .null),
  (192, .iinc 4 1, 4, 0, [], .int 1),
  (195, .goto (-152), 27, 0, [], .null),
  (198, .iconst (-1), 0, 0, [], .int (-1)),
  (199, .ireturn, 0, 0, [], .null)]
def xm_m15 : xm_M := (2, ⟨"StairNews$Gossip", "tellerOf", "(LStairNews$Lore;II)I"⟩, prog_3_method_5_code, 5, (Option.some Jvm.ClassFile.FieldType.int), 3, 0, 0, xm_c15)
def xm_c16 : List xm_E := [(0, .aload_n 0, 0, 0, [], .null),
  (1, .invokespecial 3, 1000, 0, [], .null),
  (4, .aload_n 0, 0, 0, [], .null),
  (5, .bipush 20, 0, 0, [], .int 20),
  (7, .anewarray 9, 105, 0, [], .null),
  (10, .putfield 11, 2, 0, [], .null),
  (13, .aload_n 0, 0, 0, [], .null),
  (14, .bipush 20, 0, 0, [], .int 20),
  (16, .anewarray 17, 106, 0, [], .null),
  (19, .putfield 19, 2, 1, [], .null),
  (22, .iconst 0, 0, 0, [], .int 0),
  (23, .istore_n 1, 1, 0, [], .null),
  (24, .iload_n 1, 1, 0, [], .null),
  (25, .bipush 20, 0, 0, [], .int 20),
  (27, .if_icmp .ge 35, 31, 0, [], .null),
  (30, .aload_n 0, 0, 0, [], .null),
  (31, .getfield 11, 2, 0, [], .null),
  (34, .iload_n 1, 1, 0, [], .null),
  (35, .new 9, 0, 0, [], .null),
  (38, .dup, 0, 0, [], .null),
  (39, .invokespecial 23, 1, 4, [], .null),
  (42, .aastore, 0, 0, [], .null),
  (43, .aload_n 0, 0, 0, [], .null),
  (44, .getfield 19, 2, 1, [], .null),
  (47, .iload_n 1, 1, 0, [], .null),
  (48, .new 17, 4, 0, [], .null),
  (51, .dup, 0, 0, [], .null),
  (52, .invokespecial 24, 35, 2, [], .null),
  (55, .aastore, 0, 0, [], .null),
  (56, .iinc 1 1, 1, 0, [], .int 1),
  (59, .goto (-35), 12, 0, [], .null),
  (62, .return_, 0, 0, [], .null)]
def xm_m16 : xm_M := (3, ⟨"StairNews$History", "<init>", "()V"⟩, prog_4_method_1_code, 2, (Option.none : Option Jvm.ClassFile.FieldType), 0, 182, 1220, xm_c16)
def xm_c17 : List xm_E := [(0, .aload_n 0, 0, 0, [], .null),
  (1, .getfield 11, 2, 0, [], .null),
  (4, .aload_n 0, 0, 0, [], .null),
  (5, .getfield 25, 2, 2, [], .null),
  (8, .aaload, 0, 0, [], .null),
  (9, .aload_n 1, 1, 0, [], .null),
  (10, .getfield 29, 8, 1, [], .null),
  (13, .invokevirtual 35, 2, 0, [], .null),
  (16, .aload_n 0, 0, 0, [], .null),
  (17, .getfield 19, 2, 1, [], .null),
  (20, .aload_n 0, 0, 0, [], .null),
  (21, .getfield 25, 2, 2, [], .null),
  (24, .aaload, 0, 0, [], .null),
  (25, .aload_n 1, 1, 0, [], .null),
  (26, .getfield 39, 8, 2, [], .null),
  (29, .invokevirtual 43, 37, 0, [], .null),
  (32, .aload_n 0, 0, 0, [], .null),
  (33, .aload_n 0, 0, 0, [], .null),
  (34, .getfield 25, 2, 2, [], .null),
  (37, .iconst 1, 0, 0, [], .int 1),
  (38, .iadd, 0, 0, [], .null),
  (39, .bipush 20, 0, 0, [], .int 20),
  (41, .irem, 0, 0, [], .null),
  (42, .putfield 25, 2, 2, [], .null),
  (45, .aload_n 0, 0, 0, [], .null),
  (46, .aload_n 0, 0, 0, [], .null),
  (47, .getfield 46, 2, 3, [], .null),
  (50, .iconst 1, 0, 0, [], .int 1),
  (51, .iadd, 0, 0, [], .null),
  (52, .bipush 20, 0, 0, [], .int 20),
  (54, .invokestatic 49, 1002, 0, [], .null),
  (57, .putfield 46, 2, 3, [], .null),
  (60, .return_, 0, 0, [], .null)]
def xm_m17 : xm_M := (3, ⟨"StairNews$History", "keep", "(LStairNews$Scene;)V"⟩, prog_4_method_2_code, 2, (Option.none : Option Jvm.ClassFile.FieldType), 1, 0, 0, xm_c17)
def xm_c18 : List xm_E := [(0, .aload_n 0, 0, 0, [], .null),
  (1, .aload_n 0, 0, 0, [], .null),
  (2, .getfield 25, 2, 2, [], .null),
  (5, .bipush 20, 0, 0, [], .int 20),
  (7, .iadd, 0, 0, [], .null),
  (8, .iconst 1, 0, 0, [], .int 1),
  (9, .isub, 0, 0, [], .null),
  (10, .bipush 20, 0, 0, [], .int 20),
  (12, .irem, 0, 0, [], .null),
  (13, .putfield 25, 2, 2, [], .null),
  (16, .aload_n 0, 0, 0, [], .null),
  (17, .aload_n 0, 0, 0, [], .null),
  (18, .getfield 46, 2, 3, [], .null),
  (21, .iconst 1, 0, 0, [], .int 1),
  (22, .isub, 0, 0, [], .null),
  (23, .iconst 0, 0, 0, [], .int 0),
  (24, .invokestatic 55, 1002, 0, [], .null),
  (27, .putfield 46, 2, 3, [], .null),
  (30, .aload_n 1, 1, 0, [], .null),
  (31, .getfield 29, 8, 1, [], .null),
  (34, .aload_n 0, 0, 0, [], .null),
  (35, .getfield 11, 2, 0, [], .null),
  (38, .aload_n 0, 0, 0, [], .null),
  (39, .getfield 25, 2, 2, [], .null),
  (42, .aaload, 0, 0, [], .null),
  (43, .invokevirtual 35, 2, 0, [], .null),
  (46, .aload_n 1, 1, 0, [], .null),
  (47, .getfield 39, 8, 2, [], .null),
  (50, .aload_n 0, 0, 0, [], .null),
  (51, .getfield 19, 2, 1, [], .null),
  (54, .aload_n 0, 0, 0, [], .null),
  (55, .getfield 25, 2, 2, [], .null),
  (58, .aaload, 0, 0, [], .null),
  (59, .invokevirtual 43, 37, 0, [], .null),
  (62, .return_, 0, 0, [], .null)]
def xm_m18 : xm_M := (3, ⟨"StairNews$History", "takeBack", "(LStairNews$Scene;)V"⟩, prog_4_method_3_code, 2, (Option.none : Option Jvm.ClassFile.FieldType), 1, 0, 0, xm_c18)
def xm_c19 : List xm_E := [(0, .aload_n 0, 0, 0, [], .null),
  (1, .iconst 0, 0, 0, [], .int 0),
  (2, .putfield 46, 2, 3, [], .null),
  (5, .return_, 0, 0, [], .null)]
def xm_m19 : xm_M := (3, ⟨"StairNews$History", "forget", "()V"⟩, prog_4_method_4_code, 1, (Option.none : Option Jvm.ClassFile.FieldType), 0, 0, 0, xm_c19)
def xm_c20 : List xm_E := [(0, .aload_n 0, 0, 0, [], .null),
  (1, .invokespecial 3, 1000, 0, [], .null),
  (4, .aload_n 0, 0, 0, [], .null),
  (5, .iconst (-1), 0, 0, [], .int (-1)),
  (6, .putfield 9, 3, 7, [], .null),
  (9, .aload_n 0, 0, 0, [], .null),
  (10, .iconst (-1), 0, 0, [], .int (-1)),
  (11, .putfield 15, 3, 8, [], .null),
  (14, .aload_n 0, 0, 0, [], .null),
  (15, .iconst (-1), 0, 0, [], .int (-1)),
  (16, .putfield 18, 3, 9, [], .null),
  (19, .aload_n 0, 0, 0, [], .null),
  (20, .bipush 7, 0, 0, [], .int 7),
  (22, .newarray .int, 100, 0, [], .null),
  (24, .putfield 21, 3, 10, [], .null),
  (27, .aload_n 0, 0, 0, [], .null),
  (28, .bipush 7, 0, 0, [], .int 7),
  (30, .newarray .int, 100, 0, [], .null),
  (32, .putfield 25, 3, 11, [], .null),
  (35, .aload_n 0, 0, 0, [], .null),
  (36, .bipush 7, 0, 0, [], .int 7),
  (38, .newarray .int, 100, 0, [], .null),
  (40, .putfield 28, 3, 12, [], .null),
  (43, .aload_n 0, 0, 0, [], .null),
  (44, .bipush 7, 0, 0, [], .int 7),
  (46, .newarray .int, 100, 0, [], .null),
  (48, .putfield 31, 3, 13, [], .null),
  (51, .aload_n 0, 0, 0, [], .null),
  (52, .bipush 10, 0, 0, [], .int 10),
  (54, .newarray .int, 100, 0, [], .null),
  (56, .putfield 34, 3, 14, [], .null),
  (59, .aload_n 0, 0, 0, [], .null),
  (60, .bipush 10, 0, 0, [], .int 10),
  (62, .newarray .int, 100, 0, [], .null),
  (64, .putfield 37, 3, 15, [], .null),
  (67, .aload_n 0, 0, 0, [], .null),
  (68, .bipush 10, 0, 0, [], .int 10),
  (70, .newarray .int, 100, 0, [], .null),
  (72, .putfield 40, 3, 16, [], .null),
  (75, .return_, 0, 0, [], .null)]
def xm_m20 : xm_M := (4, ⟨"StairNews$House", "<init>", "()V"⟩, prog_5_method_1_code, 1, (Option.none : Option Jvm.ClassFile.FieldType), 0, 7, 58, xm_c20)
def xm_c21 : List xm_E := [(0, .aload_n 0, 0, 0, [], .null),
  (1, .getfield 43, 3, 0, [], .null),
  (4, .ifCond .le 7, 5, 0, [], .null),
  (7, .iconst 1, 0, 0, [], .int 1),
  (8, .goto 4, 6, 0, [], .null),
  (11, .iconst 0, 0, 0, [], .int 0),
  (12, .ireturn, 0, 0, [], .null)]
def xm_m21 : xm_M := (4, ⟨"StairNews$House", "stands", "()Z"⟩, prog_5_method_2_code, 1, (Option.some Jvm.ClassFile.FieldType.boolean), 0, 0, 0, xm_c21)
def xm_c22 : List xm_E := [(0, .iload_n 1, 1, 0, [], .null),
  (1, .ifCond .lt 15, 8, 0, [], .null),
  (4, .iload_n 1, 1, 0, [], .null),
  (5, .aload_n 0, 0, 0, [], .null),
  (6, .getfield 43, 3, 0, [], .null),
  (9, .if_icmp .ge 7, 8, 0, [], .null),
  (12, .iconst 1, 0, 0, [], .int 1),
  (13, .goto 4, 9, 0, [], .null),
  (16, .iconst 0, 0, 0, [], .int 0),
  (17, .ireturn, 0, 0, [], .null)]
def xm_m22 : xm_M := (4, ⟨"StairNews$House", "hasFloor", "(I)Z"⟩, prog_5_method_3_code, 2, (Option.some Jvm.ClassFile.FieldType.boolean), 1, 0, 0, xm_c22)
def xm_c23 : List xm_E := [(0, .iload_n 1, 1, 0, [], .null),
  (1, .ifCond .lt 15, 8, 0, [], .null),
  (4, .iload_n 1, 1, 0, [], .null),
  (5, .aload_n 0, 0, 0, [], .null),
  (6, .getfield 46, 3, 1, [], .null),
  (9, .if_icmp .ge 7, 8, 0, [], .null),
  (12, .iconst 1, 0, 0, [], .int 1),
  (13, .goto 4, 9, 0, [], .null),
  (16, .iconst 0, 0, 0, [], .int 0),
  (17, .ireturn, 0, 0, [], .null)]
def xm_m23 : xm_M := (4, ⟨"StairNews$House", "hasPerson", "(I)Z"⟩, prog_5_method_4_code, 2, (Option.some Jvm.ClassFile.FieldType.boolean), 1, 0, 0, xm_c23)
def xm_c24 : List xm_E := [(0, .aload_n 0, 0, 0, [], .null),
  (1, .iconst 0, 0, 0, [], .int 0),
  (2, .putfield 43, 3, 0, [], .null),
  (5, .aload_n 0, 0, 0, [], .null),
  (6, .iconst 0, 0, 0, [], .int 0),
  (7, .putfield 46, 3, 1, [], .null),
  (10, .aload_n 0, 0, 0, [], .null),
  (11, .iconst 0, 0, 0, [], .int 0),
  (12, .putfield 49, 3, 2, [], .null),
  (15, .aload_n 0, 0, 0, [], .null),
  (16, .iconst 0, 0, 0, [], .int 0),
  (17, .putfield 52, 3, 3, [], .null),
  (20, .aload_n 0, 0, 0, [], .null),
  (21, .iconst 0, 0, 0, [], .int 0),
  (22, .putfield 55, 3, 4, [], .null),
  (25, .aload_n 0, 0, 0, [], .null),
  (26, .iconst 0, 0, 0, [], .int 0),
  (27, .putfield 58, 3, 5, [], .null),
  (30, .aload_n 0, 0, 0, [], .null),
  (31, .iconst 0, 0, 0, [], .int 0),
  (32, .putfield 61, 3, 6, [], .null),
  (35, .aload_n 0, 0, 0, [], .null),
  (36, .iconst (-1), 0, 0, [], .int (-1)),
  (37, .putfield 9, 3, 7, [], .null),
  (40, .aload_n 0, 0, 0, [], .null),
  (41, .iconst (-1), 0, 0, [], .int (-1)),
  (42, .putfield 15, 3, 8, [], .null),
  (45, .aload_n 0, 0, 0, [], .null),
  (46, .iconst (-1), 0, 0, [], .int (-1)),
  (47, .putfield 18, 3, 9, [], .null),
  (50, .aload_n 0, 0, 0, [], .null),
  (51, .getfield 28, 3, 12, [], .null),
  (54, .iconst 0, 0, 0, [], .int 0),
  (55, .invokestatic 64, 240, 1, [], .null),
  (58, .aload_n 0, 0, 0, [], .null),
  (59, .getfield 31, 3, 13, [], .null),
  (62, .iconst 0, 0, 0, [], .int 0),
  (63, .invokestatic 64, 240, 1, [], .null),
  (66, .return_, 0, 0, [], .null)]
def xm_m24 : xm_M := (4, ⟨"StairNews$House", "clear", "()V"⟩, prog_5_method_5_code, 1, (Option.none : Option Jvm.ClassFile.FieldType), 0, 0, 0, xm_c24)
def xm_c25 : List xm_E := [(0, .aload_n 0, 0, 0, [], .null),
  (1, .aload_n 1, 1, 0, [], .null),
  (2, .getfield 43, 3, 0, [], .null),
  (5, .putfield 43, 3, 0, [], .null),
  (8, .aload_n 0, 0, 0, [], .null),
  (9, .aload_n 1, 1, 0, [], .null),
  (10, .getfield 46, 3, 1, [], .null),
  (13, .putfield 46, 3, 1, [], .null),
  (16, .aload_n 0, 0, 0, [], .null),
  (17, .aload_n 1, 1, 0, [], .null),
  (18, .getfield 49, 3, 2, [], .null),
  (21, .putfield 49, 3, 2, [], .null),
  (24, .aload_n 0, 0, 0, [], .null),
  (25, .aload_n 1, 1, 0, [], .null),
  (26, .getfield 52, 3, 3, [], .null),
  (29, .putfield 52, 3, 3, [], .null),
  (32, .aload_n 0, 0, 0, [], .null),
  (33, .aload_n 1, 1, 0, [], .null),
  (34, .getfield 55, 3, 4, [], .null),
  (37, .putfield 55, 3, 4, [], .null),
  (40, .aload_n 0, 0, 0, [], .null),
  (41, .aload_n 1, 1, 0, [], .null),
  (42, .getfield 58, 3, 5, [], .null),
  (45, .putfield 58, 3, 5, [], .null),
  (48, .aload_n 0, 0, 0, [], .null),
  (49, .aload_n 1, 1, 0, [], .null),
  (50, .getfield 61, 3, 6, [], .null),
  (53, .putfield 61, 3, 6, [], .null),
  (56, .aload_n 0, 0, 0, [], .null),
  (57, .aload_n 1, 1, 0, [], .null),
  (58, .getfield 9, 3, 7, [], .null),
  (61, .putfield 9, 3, 7, [], .null),
  (64, .aload_n 0, 0, 0, [], .null),
  (65, .aload_n 1, 1, 0, [], .null),
  (66, .getfield 15, 3, 8, [], .null),
  (69, .putfield 15, 3, 8, [], .null),
  (72, .aload_n 0, 0, 0, [], .null),
  (73, .aload_n 1, 1, 0, [], .null),
  (74, .getfield 18, 3, 9, [], .null),
  (77, .putfield 18, 3, 9, [], .null),
  (80, .aload_n 1, 1, 0, [], .null),
  (81, .getfield 21, 3, 10, [], .null),
  (84, .iconst 0, 0, 0, [], .int 0),
  (85, .aload_n 0, 0, 0, [], .null),
  (86, .getfield 21, 3, 10, [], .null),
  (89, .iconst 0, 0, 0, [], .int 0),
  (90, .bipush 7, 0, 0, [], .int 7),
  (92, .invokestatic 70, 1001, 0, [], .null),
  (95, .aload_n 1, 1, 0, [], .null),
  (96, .getfield 25, 3, 11, [], .null),
  (99, .iconst 0, 0, 0, [], .int 0),
  (100, .aload_n 0, 0, 0, [], .null),
  (101, .getfield 25, 3, 11, [], .null),
  (104, .iconst 0, 0, 0, [], .int 0),
  (105, .bipush 7, 0, 0, [], .int 7),
  (107, .invokestatic 70, 1001, 0, [], .null),
  (110, .aload_n 1, 1, 0, [], .null),
  (111, .getfield 28, 3, 12, [], .null),
  (114, .iconst 0, 0, 0, [], .int 0),
  (115, .aload_n 0, 0, 0, [], .null),
  (116, .getfield 28, 3, 12, [], .null),
  (119, .iconst 0, 0, 0, [], .int 0),
  (120, .bipush 7, 0, 0, [], .int 7),
  (122, .invokestatic 70, 1001, 0, [], .null),
  (125, .aload_n 1, 1, 0, [], .null),
  (126, .getfield 31, 3, 13, [], .null),
  (129, .iconst 0, 0, 0, [], .int 0),
  (130, .aload_n 0, 0, 0, [], .null),
  (131, .getfield 31, 3, 13, [], .null),
  (134, .iconst 0, 0, 0, [], .int 0),
  (135, .bipush 7, 0, 0, [], .int 7),
  (137, .invokestatic 70, 1001, 0, [], .null),
  (140, .aload_n 1, 1, 0, [], .null),
  (141, .getfield 34, 3, 14, [], .null),
  (144, .iconst 0, 0, 0, [], .int 0),
  (145, .aload_n 0, 0, 0, [], .null),
  (146, .getfield 34, 3, 14, [], .null),
  (149, .iconst 0, 0, 0, [], .int 0),
  (150, .bipush 10, 0, 0, [], .int 10),
  (152, .invokestatic 70, 1001, 0, [], .null),
  (155, .aload_n 1, 1, 0, [], .null),
  (156, .getfield 37, 3, 15, [], .null),
  (159, .iconst 0, 0, 0, [], .int 0),
  (160, .aload_n 0, 0, 0, [], .null),
  (161, .getfield 37, 3, 15, [], .null),
  (164, .iconst 0, 0, 0, [], .int 0),
  (165, .bipush 10, 0, 0, [], .int 10),
  (167, .invokestatic 70, 1001, 0, [], .null),
  (170, .aload_n 1, 1, 0, [], .null),
  (171, .getfield 40, 3, 16, [], .null),
  (174, .iconst 0, 0, 0, [], .int 0),
  (175, .aload_n 0, 0, 0, [], .null),
  (176, .getfield 40, 3, 16, [], .null),
  (179, .iconst 0, 0, 0, [], .int 0),
  (180, .bipush 10, 0, 0, [], .int 10),
  (182, .invokestatic 70, 1001, 0, [], .null),
  (185, .return_, 0, 0, [], .null)]
def xm_m25 : xm_M := (4, ⟨"StairNews$House", "copy", "(LStairNews$House;)V"⟩, prog_5_method_6_code, 2, (Option.none : Option Jvm.ClassFile.FieldType), 1, 0, 0, xm_c25)
def xm_c26 : List xm_E := [(0, .aload_n 0, 0, 0, [], .null),
  (1, .getfield 46, 3, 1, [], .null),
  (4, .bipush 7, 0, 0, [], .int 7),
  (6, .if_icmp .ge 33, 22, 0, [], .null),
  (9, .aload_n 0, 0, 0, [], .null),
  (10, .getfield 21, 3, 10, [], .null),
  (13, .aload_n 0, 0, 0, [], .null),
  (14, .getfield 46, 3, 1, [], .null),
  (17, .iload_n 1, 1, 0, [], .null),
  (18, .iastore, 0, 0, [], .null),
  (19, .aload_n 0, 0, 0, [], .null),
  (20, .getfield 25, 3, 11, [], .null),
  (23, .aload_n 0, 0, 0, [], .null),
  (24, .getfield 46, 3, 1, [], .null),
  (27, .iload_n 2, 2, 0, [], .null),
  (28, .iastore, 0, 0, [], .null),
  (29, .aload_n 0, 0, 0, [], .null),
  (30, .dup, 0, 0, [], .null),
  (31, .getfield 46, 3, 1, [], .null),
  (34, .iconst 1, 0, 0, [], .int 1),
  (35, .iadd, 0, 0, [], .null),
  (36, .putfield 46, 3, 1, [], .null),
  (39, .return_, 0, 0, [], .null)]
def xm_m26 : xm_M := (4, ⟨"StairNews$House", "addPerson", "(II)V"⟩, prog_5_method_7_code, 3, (Option.none : Option Jvm.ClassFile.FieldType), 2, 0, 0, xm_c26)
def xm_c27 : List xm_E := [(0, .aload_n 0, 0, 0, [], .null),
  (1, .getfield 49, 3, 2, [], .null),
  (4, .bipush 10, 0, 0, [], .int 10),
  (6, .if_icmp .ge 43, 28, 0, [], .null),
  (9, .aload_n 0, 0, 0, [], .null),
  (10, .getfield 34, 3, 14, [], .null),
  (13, .aload_n 0, 0, 0, [], .null),
  (14, .getfield 49, 3, 2, [], .null),
  (17, .iload_n 1, 1, 0, [], .null),
  (18, .iastore, 0, 0, [], .null),
  (19, .aload_n 0, 0, 0, [], .null),
  (20, .getfield 37, 3, 15, [], .null),
  (23, .aload_n 0, 0, 0, [], .null),
  (24, .getfield 49, 3, 2, [], .null),
  (27, .iload_n 2, 2, 0, [], .null),
  (28, .iastore, 0, 0, [], .null),
  (29, .aload_n 0, 0, 0, [], .null),
  (30, .getfield 40, 3, 16, [], .null),
  (33, .aload_n 0, 0, 0, [], .null),
  (34, .getfield 49, 3, 2, [], .null),
  (37, .iload_n 3, 3, 0, [], .null),
  (38, .iastore, 0, 0, [], .null),
  (39, .aload_n 0, 0, 0, [], .null),
  (40, .dup, 0, 0, [], .null),
  (41, .getfield 49, 3, 2, [], .null),
  (44, .iconst 1, 0, 0, [], .int 1),
  (45, .iadd, 0, 0, [], .null),
  (46, .putfield 49, 3, 2, [], .null),
  (49, .return_, 0, 0, [], .null)]
def xm_m27 : xm_M := (4, ⟨"StairNews$House", "addErrand", "(III)V"⟩, prog_5_method_8_code, 4, (Option.none : Option Jvm.ClassFile.FieldType), 3, 0, 0, xm_c27)
def xm_c28 : List xm_E := [(0, .aload_n 0, 0, 0, [], .null),
  (1, .getfield 28, 3, 12, [], .null),
  (4, .iload_n 1, 1, 0, [], .null),
  (5, .dup2, 0, 0, [], .null),
  (6, .iaload, 0, 0, [], .null),
  (7, .iconst 1, 0, 0, [], .int 1),
  (8, .iload_n 2, 2, 0, [], .null),
  (9, .ishl, 0, 0, [], .null),
  (10, .ior, 0, 0, [], .null),
  (11, .iastore, 0, 0, [], .null),
  (12, .aload_n 0, 0, 0, [], .null),
  (13, .getfield 28, 3, 12, [], .null),
  (16, .iload_n 2, 2, 0, [], .null),
  (17, .dup2, 0, 0, [], .null),
  (18, .iaload, 0, 0, [], .null),
  (19, .iconst 1, 0, 0, [], .int 1),
  (20, .iload_n 1, 1, 0, [], .null),
  (21, .ishl, 0, 0, [], .null),
  (22, .ior, 0, 0, [], .null),
  (23, .iastore, 0, 0, [], .null),
  (24, .aload_n 0, 0, 0, [], .null),
  (25, .dup, 0, 0, [], .null),
  (26, .getfield 52, 3, 3, [], .null),
  (29, .iconst 1, 0, 0, [], .int 1),
  (30, .iadd, 0, 0, [], .null),
  (31, .putfield 52, 3, 3, [], .null),
  (34, .return_, 0, 0, [], .null)]
def xm_m28 : xm_M := (4, ⟨"StairNews$House", "addHate", "(II)V"⟩, prog_5_method_9_code, 3, (Option.none : Option Jvm.ClassFile.FieldType), 2, 0, 0, xm_c28)
def xm_c29 : List xm_E := [(0, .aload_n 0, 0, 0, [], .null),
  (1, .invokevirtual 9, 80, 0, [], .null),
  (4, .aload_n 1, 1, 0, [], .null),
  (5, .invokevirtual 14, 24, 0, [], .null),
  (8, .iconst 1, 0, 0, [], .int 1),
  (9, .istore_n 2, 2, 0, [], .null),
  (10, .iconst 0, 0, 0, [], .int 0),
  (11, .istore_n 3, 3, 0, [], .null),
  (12, .iload_n 2, 2, 0, [], .null),
  (13, .ifCond .eq 26, 22, 0, [], .null),
  (16, .iload_n 3, 3, 0, [], .null),
  (17, .bipush 40, 0, 0, [], .int 40),
  (19, .if_icmp .gt 20, 22, 0, [], .null),
  (22, .aload_n 0, 0, 0, [], .null),
  (23, .aload_n 1, 1, 0, [], .null),
  (24, .iload_n 3, 3, 0, [], .null),
  (25, .invokestatic 19, 30, 1, [], .null),
  (28, .aload_n 0, 0, 0, [], .null),
  (29, .invokevirtual 25, 86, 0, [], .null),
  (32, .istore_n 2, 2, 0, [], .null),
  (33, .iinc 3 1, 3, 0, [], .int 1),
  (36, .goto (-24), 8, 0, [], .null),
  (39, .aload_n 0, 0, 0, [], .null),
  (40, .getfield 29, 9, 5, [], .null),
  (43, .ireturn, 0, 0, [], .null)]
def xm_m29 : xm_M := (13, ⟨"StairNews$HouseReader", "read", "(LStairNews$Tape;LStairNews$House;)I"⟩, prog_6_method_2_code, 4, (Option.some Jvm.ClassFile.FieldType.int), 2, 0, 0, xm_c29)
def xm_c30 : List xm_E := [(0, .aload_n 0, 0, 0, [], .null),
  (1, .ldc 33, 0, 0, [], .ref 1),
  (3, .invokevirtual 35, 83, 0, [], .null),
  (6, .istore_n 3, 3, 0, [], .null),
  (7, .iload_n 3, 3, 0, [], .null),
  (8, .iconst (-1), 0, 0, [], .int (-1)),
  (9, .if_icmp .ne 11, 11, 0, [], .null),
  (12, .aload_n 0, 0, 0, [], .null),
  (13, .iconst 0, 0, 0, [], .int 0),
  (14, .invokevirtual 39, 81, 0, [], .null),
  (17, .goto 56, 39, 0, [], .null),
  (20, .iload_n 2, 2, 0, [], .null),
  (21, .bipush 40, 0, 0, [], .int 40),
  (23, .if_icmp .ge 32, 29, 0, [], .null),
  (26, .iload_n 3, 3, 0, [], .null),
  (27, .ifCond .ne 7, 18, 0, [], .null),
  (30, .iconst 1, 0, 0, [], .int 1),
  (31, .goto 4, 19, 0, [], .null),
  (34, .iconst 0, 0, 0, [], .int 0),
  (35, .iload_n 2, 2, 0, [], .null),
  (36, .ifCond .ne 7, 23, 0, [], .null),
  (39, .iconst 1, 0, 0, [], .int 1),
  (40, .goto 4, 24, 0, [], .null),
  (43, .iconst 0, 0, 0, [], .int 0),
  (44, .if_icmp .ne 11, 29, 0, [], .null),
  (47, .iload_n 3, 3, 0, [], .null),
  (48, .aload_n 1, 1, 0, [], .null),
  (49, .invokestatic 43, 31, 1, [], .null),
  (52, .ifCond .eq 11, 33, 0, [], .null),
  (55, .aload_n 0, 0, 0, [], .null),
  (56, .iconst 4, 0, 0, [], .int 4),
  (57, .invokevirtual 39, 81, 0, [], .null),
  (60, .goto 13, 39, 0, [], .null),
  (63, .aload_n 0, 0, 0, [], .null),
  (64, .invokevirtual 47, 82, 0, [], .null),
  (67, .iload_n 3, 3, 0, [], .null),
  (68, .aload_n 0, 0, 0, [], .null),
  (69, .aload_n 1, 1, 0, [], .null),
  (70, .invokestatic 50, 32, 1, [], .null),
  (73, .return_, 0, 0, [], .null)]
def xm_m30 : xm_M := (13, ⟨"StairNews$HouseReader", "readClause", "(LStairNews$Tape;LStairNews$House;I)V"⟩, prog_6_method_3_code, 4, (Option.none : Option Jvm.ClassFile.FieldType), 3, 0, 0, xm_c30)
def xm_c31 : List xm_E := [(0, .iload_n 0, 0, 0, [], .null),
  (1, .tableswitch 128 1 10 #[55, 70, 85, 128, 128, 128, 128, 100, 128, 114], 42, 0, [2, 10, 18, 42, 42, 42, 42, 26, 42, 34], .null),
  (56, .aload_n 1, 1, 0, [], .null),
  (57, .getfield 54, 3, 1, [], .null),
  (60, .bipush 7, 0, 0, [], .int 7),
  (62, .if_icmp .lt 7, 8, 0, [], .null),
  (65, .iconst 1, 0, 0, [], .int 1),
  (66, .goto 4, 9, 0, [], .null),
  (69, .iconst 0, 0, 0, [], .int 0),
  (70, .ireturn, 0, 0, [], .null),
  (71, .aload_n 1, 1, 0, [], .null),
  (72, .getfield 57, 3, 2, [], .null),
  (75, .bipush 10, 0, 0, [], .int 10),
  (77, .if_icmp .lt 7, 16, 0, [], .null),
  (80, .iconst 1, 0, 0, [], .int 1),
  (81, .goto 4, 17, 0, [], .null),
  (84, .iconst 0, 0, 0, [], .int 0),
  (85, .ireturn, 0, 0, [], .null),
  (86, .aload_n 1, 1, 0, [], .null),
  (87, .getfield 60, 3, 3, [], .null),
  (90, .bipush 6, 0, 0, [], .int 6),
  (92, .if_icmp .lt 7, 24, 0, [], .null),
  (95, .iconst 1, 0, 0, [], .int 1),
  (96, .goto 4, 25, 0, [], .null),
  (99, .iconst 0, 0, 0, [], .int 0),
  (100, .ireturn, 0, 0, [], .null),
  (101, .aload_n 1, 1, 0, [], .null),
  (102, .getfield 63, 3, 7, [], .null),
  (105, .iconst (-1), 0, 0, [], .int (-1)),
  (106, .if_icmp .eq 7, 32, 0, [], .null),
  (109, .iconst 1, 0, 0, [], .int 1),
  (110, .goto 4, 33, 0, [], .null),
  (113, .iconst 0, 0, 0, [], .int 0),
  (114, .ireturn, 0, 0, [], .null),
  (115, .aload_n 1, 1, 0, [], .null),
  (116, .getfield 66, 3, 9, [], .null),
  (119, .iconst (-1), 0, 0, [], .int (-1)),
  (120, .if_icmp .eq 7, 40, 0, [], .null),
  (123, .iconst 1, 0, 0, [], .int 1),
  (124, .goto 4, 41, 0, [], .null),
  (127, .iconst 0, 0, 0, [], .int 0),
  (128, .ireturn, 0, 0, [], .null),
  (129, .iconst 0, 0, 0, [], .int 0),
  (130, .ireturn, 0, 0, [], .null)]
def xm_m31 : xm_M := (13, ⟨"StairNews$HouseReader", "isOver", "(ILStairNews$House;)Z"⟩, prog_6_method_4_code, 2, (Option.some Jvm.ClassFile.FieldType.boolean), 2, 0, 0, xm_c31)
def xm_c32 : List xm_E := [(0, .iload_n 0, 0, 0, [], .null),
  (1, .tableswitch 44 2 6 #[35, 35, 35, 35, 35], 7, 0, [2, 2, 2, 2, 2], .null),
  (36, .iload_n 0, 0, 0, [], .null),
  (37, .aload_n 1, 1, 0, [], .null),
  (38, .aload_n 2, 2, 0, [], .null),
  (39, .invokestatic 69, 33, 1, [], .null),
  (42, .goto 9, 11, 0, [], .null),
  (45, .iload_n 0, 0, 0, [], .null),
  (46, .aload_n 1, 1, 0, [], .null),
  (47, .aload_n 2, 2, 0, [], .null),
  (48, .invokestatic 72, 34, 1, [], .null),
  (51, .return_, 0, 0, [], .null)]
def xm_m32 : xm_M := (13, ⟨"StairNews$HouseReader", "readNumbers", "(ILStairNews$Tape;LStairNews$House;)V"⟩, prog_6_method_5_code, 3, (Option.none : Option Jvm.ClassFile.FieldType), 3, 0, 0, xm_c32)
def xm_c33 : List xm_E := [(0, .aload_n 1, 1, 0, [], .null),
  (1, .iconst 0, 0, 0, [], .int 0),
  (2, .aload_n 2, 2, 0, [], .null),
  (3, .getfield 54, 3, 1, [], .null),
  (6, .iconst 1, 0, 0, [], .int 1),
  (7, .isub, 0, 0, [], .null),
  (8, .iconst (-1), 0, 0, [], .int (-1)),
  (9, .invokevirtual 75, 85, 0, [], .null),
  (12, .istore_n 3, 3, 0, [], .null),
  (13, .iconst 0, 0, 0, [], .int 0),
  (14, .istore 4, 4, 0, [], .null),
  (16, .iconst 0, 0, 0, [], .int 0),
  (17, .istore 5, 5, 0, [], .null),
  (19, .iload_n 0, 0, 0, [], .null),
  (20, .iconst 2, 0, 0, [], .int 2),
  (21, .if_icmp .ne 30, 32, 0, [], .null),
  (24, .aload_n 1, 1, 0, [], .null),
  (25, .iconst 0, 0, 0, [], .int 0),
  (26, .aload_n 2, 2, 0, [], .null),
  (27, .getfield 79, 3, 0, [], .null),
  (30, .iconst 1, 0, 0, [], .int 1),
  (31, .isub, 0, 0, [], .null),
  (32, .iconst (-1), 0, 0, [], .int (-1)),
  (33, .invokevirtual 75, 85, 0, [], .null),
  (36, .istore 4, 4, 0, [], .null),
  (38, .aload_n 1, 1, 0, [], .null),
  (39, .iconst 0, 0, 0, [], .int 0),
  (40, .bipush 99, 0, 0, [], .int 99),
  (42, .iconst (-1), 0, 0, [], .int (-1)),
  (43, .invokevirtual 75, 85, 0, [], .null),
  (46, .istore 5, 5, 0, [], .null),
  (48, .goto 46, 57, 0, [], .null),
  (51, .iload_n 0, 0, 0, [], .null),
  (52, .iconst 3, 0, 0, [], .int 3),
  (53, .if_icmp .ne 20, 45, 0, [], .null),
  (56, .aload_n 1, 1, 0, [], .null),
  (57, .iconst 0, 0, 0, [], .int 0),
  (58, .aload_n 2, 2, 0, [], .null),
  (59, .getfield 54, 3, 1, [], .null),
  (62, .iconst 1, 0, 0, [], .int 1),
  (63, .isub, 0, 0, [], .null),
  (64, .iload_n 3, 3, 0, [], .null),
  (65, .invokevirtual 75, 85, 0, [], .null),
  (68, .istore 4, 4, 0, [], .null),
  (70, .goto 24, 57, 0, [], .null),
  (73, .iload_n 0, 0, 0, [], .null),
  (74, .iconst 5, 0, 0, [], .int 5),
  (75, .if_icmp .eq 9, 51, 0, [], .null),
  (78, .iload_n 0, 0, 0, [], .null),
  (79, .bipush 6, 0, 0, [], .int 6),
  (81, .if_icmp .ne 13, 57, 0, [], .null),
  (84, .aload_n 1, 1, 0, [], .null),
  (85, .iconst 1, 0, 0, [], .int 1),
  (86, .bipush 9, 0, 0, [], .int 9),
  (88, .iconst (-1), 0, 0, [], .int (-1)),
  (89, .invokevirtual 75, 85, 0, [], .null),
  (92, .istore 4, 4, 0, [], .null),
  (94, .aload_n 1, 1, 0, [], .null),
  (95, .getfield 29, 9, 5, [], .null),
  (98, .ifCond .eq 4, 61, 0, [], .null),
  (101, .return_, 0, 0, [], .null),
  (102, .iload_n 0, 0, 0, [], .null),
  (103, .tableswitch 77 2 5 #[29, 41, 51, 66], 89, 0, [63, 69, 74, 83], .null),
  (132, .aload_n 2, 2, 0, [], .null),
  (133, .iload_n 3, 3, 0, [], .null),
  (134, .iload 4, 4, 0, [], .null),
  (136, .iload 5, 5, 0, [], .null),
  (138, .invokevirtual 82, 27, 0, [], .null),
  (141, .goto 48, 95, 0, [], .null),
  (144, .aload_n 2, 2, 0, [], .null),
  (145, .iload_n 3, 3, 0, [], .null),
  (146, .iload 4, 4, 0, [], .null),
  (148, .invokevirtual 86, 28, 0, [], .null),
  (151, .goto 38, 95, 0, [], .null),
  (154, .aload_n 2, 2, 0, [], .null),
  (155, .dup, 0, 0, [], .null),
  (156, .getfield 90, 3, 4, [], .null),
  (159, .iconst 1, 0, 0, [], .int 1),
  (160, .iload_n 3, 3, 0, [], .null),
  (161, .ishl, 0, 0, [], .null),
  (162, .ior, 0, 0, [], .null),
  (163, .putfield 90, 3, 4, [], .null),
  (166, .goto 23, 95, 0, [], .null),
  (169, .aload_n 2, 2, 0, [], .null),
  (170, .getfield 93, 3, 13, [], .null),
  (173, .iload_n 3, 3, 0, [], .null),
  (174, .iload 4, 4, 0, [], .null),
  (176, .iastore, 0, 0, [], .null),
  (177, .goto 12, 95, 0, [], .null),
  (180, .aload_n 2, 2, 0, [], .null),
  (181, .getfield 93, 3, 13, [], .null),
  (184, .iload_n 3, 3, 0, [], .null),
  (185, .iload 4, 4, 0, [], .null),
  (187, .ineg, 0, 0, [], .null),
  (188, .iastore, 0, 0, [], .null),
  (189, .return_, 0, 0, [], .null)]
def xm_m33 : xm_M := (13, ⟨"StairNews$HouseReader", "readOfPerson", "(ILStairNews$Tape;LStairNews$House;)V"⟩, prog_6_method_6_code, 6, (Option.none : Option Jvm.ClassFile.FieldType), 3, 0, 0, xm_c33)
def xm_c34 : List xm_E := [(0, .iload_n 0, 0, 0, [], .null),
  (1, .ifCond .ne 16, 10, 0, [], .null),
  (4, .aload_n 2, 2, 0, [], .null),
  (5, .aload_n 1, 1, 0, [], .null),
  (6, .iconst 2, 0, 0, [], .int 2),
  (7, .bipush 9, 0, 0, [], .int 9),
  (9, .iconst (-1), 0, 0, [], .int (-1)),
  (10, .invokevirtual 75, 85, 0, [], .null),
  (13, .putfield 79, 3, 0, [], .null),
  (16, .return_, 0, 0, [], .null),
  (17, .iload_n 0, 0, 0, [], .null),
  (18, .bipush 8, 0, 0, [], .int 8),
  (20, .if_icmp .ne 16, 21, 0, [], .null),
  (23, .aload_n 2, 2, 0, [], .null),
  (24, .aload_n 1, 1, 0, [], .null),
  (25, .iconst 0, 0, 0, [], .int 0),
  (26, .bipush 99, 0, 0, [], .int 99),
  (28, .iconst (-1), 0, 0, [], .int (-1)),
  (29, .invokevirtual 75, 85, 0, [], .null),
  (32, .putfield 63, 3, 7, [], .null),
  (35, .return_, 0, 0, [], .null),
  (36, .aload_n 1, 1, 0, [], .null),
  (37, .iconst 0, 0, 0, [], .int 0),
  (38, .aload_n 2, 2, 0, [], .null),
  (39, .getfield 79, 3, 0, [], .null),
  (42, .iconst 1, 0, 0, [], .int 1),
  (43, .isub, 0, 0, [], .null),
  (44, .iconst (-1), 0, 0, [], .int (-1)),
  (45, .invokevirtual 75, 85, 0, [], .null),
  (48, .istore_n 3, 3, 0, [], .null),
  (49, .iconst 0, 0, 0, [], .int 0),
  (50, .istore 4, 4, 0, [], .null),
  (52, .iload_n 0, 0, 0, [], .null),
  (53, .iconst 1, 0, 0, [], .int 1),
  (54, .if_icmp .ne 16, 42, 0, [], .null),
  (57, .aload_n 1, 1, 0, [], .null),
  (58, .iconst 1, 0, 0, [], .int 1),
  (59, .bipush 9, 0, 0, [], .int 9),
  (61, .iconst (-1), 0, 0, [], .int (-1)),
  (62, .invokevirtual 75, 85, 0, [], .null),
  (65, .istore 4, 4, 0, [], .null),
  (67, .goto 23, 54, 0, [], .null),
  (70, .iload_n 0, 0, 0, [], .null),
  (71, .bipush 10, 0, 0, [], .int 10),
  (73, .if_icmp .ne 17, 54, 0, [], .null),
  (76, .aload_n 1, 1, 0, [], .null),
  (77, .iconst 0, 0, 0, [], .int 0),
  (78, .aload_n 2, 2, 0, [], .null),
  (79, .getfield 79, 3, 0, [], .null),
  (82, .iconst 1, 0, 0, [], .int 1),
  (83, .isub, 0, 0, [], .null),
  (84, .iload_n 3, 3, 0, [], .null),
  (85, .invokevirtual 75, 85, 0, [], .null),
  (88, .istore 4, 4, 0, [], .null),
  (90, .aload_n 1, 1, 0, [], .null),
  (91, .getfield 29, 9, 5, [], .null),
  (94, .ifCond .eq 4, 58, 0, [], .null),
  (97, .return_, 0, 0, [], .null),
  (98, .iload_n 0, 0, 0, [], .null),
  (99, .lookupswitch 73 #[(1, 33), (7, 43), (9, 58)], 83, 0, [60, 65, 74], .null),
  (132, .aload_n 2, 2, 0, [], .null),
  (133, .iload_n 3, 3, 0, [], .null),
  (134, .iload 4, 4, 0, [], .null),
  (136, .invokevirtual 97, 26, 0, [], .null),
  (139, .goto 44, 89, 0, [], .null),
  (142, .aload_n 2, 2, 0, [], .null),
  (143, .dup, 0, 0, [], .null),
  (144, .getfield 100, 3, 5, [], .null),
  (147, .iconst 1, 0, 0, [], .int 1),
  (148, .iload_n 3, 3, 0, [], .null),
  (149, .ishl, 0, 0, [], .null),
  (150, .ior, 0, 0, [], .null),
  (151, .putfield 100, 3, 5, [], .null),
  (154, .goto 29, 89, 0, [], .null),
  (157, .aload_n 2, 2, 0, [], .null),
  (158, .dup, 0, 0, [], .null),
  (159, .getfield 103, 3, 6, [], .null),
  (162, .iconst 1, 0, 0, [], .int 1),
  (163, .iload_n 3, 3, 0, [], .null),
  (164, .ishl, 0, 0, [], .null),
  (165, .ior, 0, 0, [], .null),
  (166, .putfield 103, 3, 6, [], .null),
  (169, .goto 14, 89, 0, [], .null),
  (172, .aload_n 2, 2, 0, [], .null),
  (173, .iload_n 3, 3, 0, [], .null),
  (174, .putfield 106, 3, 8, [], .null),
  (177, .aload_n 2, 2, 0, [], .null),
  (178, .iload 4, 4, 0, [], .null),
  (180, .putfield 66, 3, 9, [], .null),
  (183, .return_, 0, 0, [], .null)]
def xm_m34 : xm_M := (13, ⟨"StairNews$HouseReader", "readOfFloors", "(ILStairNews$Tape;LStairNews$House;)V"⟩, prog_6_method_7_code, 5, (Option.none : Option Jvm.ClassFile.FieldType), 3, 0, 0, xm_c34)
def xm_c35 : List xm_E := [(0, .aload_n 0, 0, 0, [], .null),
  (1, .invokespecial 3, 1000, 0, [], .null),
  (4, .aload_n 0, 0, 0, [], .null),
  (5, .bipush 7, 0, 0, [], .int 7),
  (7, .newarray .int, 100, 0, [], .null),
  (9, .putfield 9, 4, 1, [], .null),
  (12, .aload_n 0, 0, 0, [], .null),
  (13, .bipush 7, 0, 0, [], .int 7),
  (15, .newarray .int, 100, 0, [], .null),
  (17, .putfield 15, 4, 2, [], .null),
  (20, .aload_n 0, 0, 0, [], .null),
  (21, .bipush 7, 0, 0, [], .int 7),
  (23, .newarray .int, 100, 0, [], .null),
  (25, .putfield 18, 4, 3, [], .null),
  (28, .aload_n 0, 0, 0, [], .null),
  (29, .getfield 9, 4, 1, [], .null),
  (32, .iconst (-1), 0, 0, [], .int (-1)),
  (33, .invokestatic 21, 240, 1, [], .null),
  (36, .aload_n 0, 0, 0, [], .null),
  (37, .getfield 18, 4, 3, [], .null),
  (40, .iconst (-1), 0, 0, [], .int (-1)),
  (41, .invokestatic 21, 240, 1, [], .null),
  (44, .return_, 0, 0, [], .null)]
def xm_m35 : xm_M := (5, ⟨"StairNews$Lore", "<init>", "()V"⟩, prog_7_method_1_code, 1, (Option.none : Option Jvm.ClassFile.FieldType), 0, 3, 21, xm_c35)
def xm_c36 : List xm_E := [(0, .aload_n 0, 0, 0, [], .null),
  (1, .iconst 0, 0, 0, [], .int 0),
  (2, .putfield 27, 4, 0, [], .null),
  (5, .aload_n 0, 0, 0, [], .null),
  (6, .getfield 9, 4, 1, [], .null),
  (9, .iconst (-1), 0, 0, [], .int (-1)),
  (10, .invokestatic 21, 240, 1, [], .null),
  (13, .aload_n 0, 0, 0, [], .null),
  (14, .getfield 15, 4, 2, [], .null),
  (17, .iconst 0, 0, 0, [], .int 0),
  (18, .invokestatic 21, 240, 1, [], .null),
  (21, .aload_n 0, 0, 0, [], .null),
  (22, .getfield 18, 4, 3, [], .null),
  (25, .iconst (-1), 0, 0, [], .int (-1)),
  (26, .invokestatic 21, 240, 1, [], .null),
  (29, .return_, 0, 0, [], .null)]
def xm_m36 : xm_M := (5, ⟨"StairNews$Lore", "clear", "()V"⟩, prog_7_method_2_code, 1, (Option.none : Option Jvm.ClassFile.FieldType), 0, 0, 0, xm_c36)
def xm_c37 : List xm_E := [(0, .aload_n 0, 0, 0, [], .null),
  (1, .aload_n 1, 1, 0, [], .null),
  (2, .getfield 27, 4, 0, [], .null),
  (5, .putfield 27, 4, 0, [], .null),
  (8, .aload_n 1, 1, 0, [], .null),
  (9, .getfield 9, 4, 1, [], .null),
  (12, .iconst 0, 0, 0, [], .int 0),
  (13, .aload_n 0, 0, 0, [], .null),
  (14, .getfield 9, 4, 1, [], .null),
  (17, .iconst 0, 0, 0, [], .int 0),
  (18, .bipush 7, 0, 0, [], .int 7),
  (20, .invokestatic 31, 1001, 0, [], .null),
  (23, .aload_n 1, 1, 0, [], .null),
  (24, .getfield 15, 4, 2, [], .null),
  (27, .iconst 0, 0, 0, [], .int 0),
  (28, .aload_n 0, 0, 0, [], .null),
  (29, .getfield 15, 4, 2, [], .null),
  (32, .iconst 0, 0, 0, [], .int 0),
  (33, .bipush 7, 0, 0, [], .int 7),
  (35, .invokestatic 31, 1001, 0, [], .null),
  (38, .aload_n 1, 1, 0, [], .null),
  (39, .getfield 18, 4, 3, [], .null),
  (42, .iconst 0, 0, 0, [], .int 0),
  (43, .aload_n 0, 0, 0, [], .null),
  (44, .getfield 18, 4, 3, [], .null),
  (47, .iconst 0, 0, 0, [], .int 0),
  (48, .bipush 7, 0, 0, [], .int 7),
  (50, .invokestatic 31, 1001, 0, [], .null),
  (53, .return_, 0, 0, [], .null)]
def xm_m37 : xm_M := (5, ⟨"StairNews$Lore", "copy", "(LStairNews$Lore;)V"⟩, prog_7_method_3_code, 2, (Option.none : Option Jvm.ClassFile.FieldType), 1, 0, 0, xm_c37)
def xm_c38 : List xm_E := [(0, .aload_n 0, 0, 0, [], .null),
  (1, .dup, 0, 0, [], .null),
  (2, .getfield 27, 4, 0, [], .null),
  (5, .iconst 1, 0, 0, [], .int 1),
  (6, .iload_n 1, 1, 0, [], .null),
  (7, .ishl, 0, 0, [], .null),
  (8, .ior, 0, 0, [], .null),
  (9, .putfield 27, 4, 0, [], .null),
  (12, .aload_n 0, 0, 0, [], .null),
  (13, .getfield 9, 4, 1, [], .null),
  (16, .iload_n 1, 1, 0, [], .null),
  (17, .iload 4, 4, 0, [], .null),
  (19, .iastore, 0, 0, [], .null),
  (20, .aload_n 0, 0, 0, [], .null),
  (21, .getfield 15, 4, 2, [], .null),
  (24, .iload_n 1, 1, 0, [], .null),
  (25, .sipush (-999), 0, 0, [], .int (-999)),
  (28, .sipush 999, 0, 0, [], .int 999),
  (31, .iload_n 2, 2, 0, [], .null),
  (32, .invokestatic 37, 1002, 0, [], .null),
  (35, .invokestatic 43, 1002, 0, [], .null),
  (38, .iastore, 0, 0, [], .null),
  (39, .aload_n 0, 0, 0, [], .null),
  (40, .getfield 18, 4, 3, [], .null),
  (43, .iload_n 1, 1, 0, [], .null),
  (44, .iload_n 3, 3, 0, [], .null),
  (45, .iastore, 0, 0, [], .null),
  (46, .return_, 0, 0, [], .null)]
def xm_m38 : xm_M := (5, ⟨"StairNews$Lore", "learn", "(IIII)V"⟩, prog_7_method_4_code, 5, (Option.none : Option Jvm.ClassFile.FieldType), 4, 0, 0, xm_c38)
def xm_c39 : List xm_E := [(0, .iconst 0, 0, 0, [], .int 0),
  (1, .istore_n 1, 1, 0, [], .null),
  (2, .iconst 0, 0, 0, [], .int 0),
  (3, .istore_n 2, 2, 0, [], .null),
  (4, .iload_n 2, 2, 0, [], .null),
  (5, .bipush 7, 0, 0, [], .int 7),
  (7, .if_icmp .ge 34, 24, 0, [], .null),
  (10, .iload_n 1, 1, 0, [], .null),
  (11, .aload_n 0, 0, 0, [], .null),
  (12, .getfield 27, 4, 0, [], .null),
  (15, .iload_n 2, 2, 0, [], .null),
  (16, .invokestatic 46, 120, 3, [], .null),
  (19, .iconst 1, 0, 0, [], .int 1),
  (20, .if_icmp .ne 12, 19, 0, [], .null),
  (23, .aload_n 0, 0, 0, [], .null),
  (24, .getfield 15, 4, 2, [], .null),
  (27, .iload_n 2, 2, 0, [], .null),
  (28, .iaload, 0, 0, [], .null),
  (29, .goto 4, 20, 0, [], .null),
  (32, .iconst 0, 0, 0, [], .int 0),
  (33, .iadd, 0, 0, [], .null),
  (34, .istore_n 1, 1, 0, [], .null),
  (35, .iinc 2 1, 2, 0, [], .int 1),
  (38, .goto (-34), 4, 0, [], .null),
  (41, .iload_n 1, 1, 0, [], .null),
  (42, .ireturn, 0, 0, [], .null)]
def xm_m39 : xm_M := (5, ⟨"StairNews$Lore", "allChairs", "()I"⟩, prog_7_method_5_code, 3, (Option.some Jvm.ClassFile.FieldType.int), 0, 0, 0, xm_c39)
def xm_c40 : List xm_E := [(0, .aload_n 0, 0, 0, [], .null),
  (1, .getfield 27, 4, 0, [], .null),
  (4, .iload_n 1, 1, 0, [], .null),
  (5, .invokestatic 46, 120, 3, [], .null),
  (8, .iconst 1, 0, 0, [], .int 1),
  (9, .if_icmp .ne 12, 11, 0, [], .null),
  (12, .aload_n 0, 0, 0, [], .null),
  (13, .getfield 15, 4, 2, [], .null),
  (16, .iload_n 1, 1, 0, [], .null),
  (17, .iaload, 0, 0, [], .null),
  (18, .goto 6, 12, 0, [], .null),
  (21, .sipush (-1000), 0, 0, [], .int (-1000)),
  (24, .ireturn, 0, 0, [], .null)]
def xm_m40 : xm_M := (5, ⟨"StairNews$Lore", "answerOf", "(I)I"⟩, prog_7_method_6_code, 2, (Option.some Jvm.ClassFile.FieldType.int), 1, 0, 0, xm_c40)
def xm_c41 : List xm_E := [(0, .aload_n 0, 0, 0, [], .null),
  (1, .invokespecial 3, 1000, 0, [], .null),
  (4, .aload_n 0, 0, 0, [], .null),
  (5, .new 9, 0, 0, [], .null),
  (8, .dup, 0, 0, [], .null),
  (9, .invokespecial 11, 1, 4, [], .null),
  (12, .putfield 12, 5, 2, [], .null),
  (15, .aload_n 0, 0, 0, [], .null),
  (16, .new 18, 4, 0, [], .null),
  (19, .dup, 0, 0, [], .null),
  (20, .invokespecial 20, 35, 2, [], .null),
  (23, .putfield 21, 5, 3, [], .null),
  (26, .aload_n 0, 0, 0, [], .null),
  (27, .sipush 999, 0, 0, [], .int 999),
  (30, .newarray .long, 102, 0, [], .null),
  (32, .putfield 25, 5, 4, [], .null),
  (35, .aload_n 0, 0, 0, [], .null),
  (36, .sipush 2009, 0, 0, [], .int 2009),
  (39, .newarray .int, 100, 0, [], .null),
  (41, .putfield 29, 5, 5, [], .null),
  (44, .aload_n 0, 0, 0, [], .null),
  (45, .bipush 110, 0, 0, [], .int 110),
  (47, .newarray .int, 100, 0, [], .null),
  (49, .putfield 33, 5, 6, [], .null),
  (52, .aload_n 0, 0, 0, [], .null),
  (53, .aload_n 1, 1, 0, [], .null),
  (54, .putfield 36, 5, 0, [], .null),
  (57, .aload_n 0, 0, 0, [], .null),
  (58, .new 40, 1, 0, [], .null),
  (61, .dup, 0, 0, [], .null),
  (62, .aload_n 1, 1, 0, [], .null),
  (63, .getfield 42, 8, 0, [], .null),
  (66, .invokespecial 48, 11, 2, [], .null),
  (69, .putfield 51, 5, 1, [], .null),
  (72, .return_, 0, 0, [], .null)]
def xm_m41 : xm_M := (6, ⟨"StairNews$Outlook", "<init>", "(LStairNews$Scene;)V"⟩, prog_8_method_1_code, 2, (Option.none : Option Jvm.ClassFile.FieldType), 1, 15, 3220, xm_c41)
def xm_c42 : List xm_E := [(0, .aload_n 0, 0, 0, [], .null),
  (1, .getfield 51, 5, 1, [], .null),
  (4, .aload_n 1, 1, 0, [], .null),
  (5, .putfield 55, 1, 1, [], .null),
  (8, .aload_n 0, 0, 0, [], .null),
  (9, .getfield 51, 5, 1, [], .null),
  (12, .aload_n 0, 0, 0, [], .null),
  (13, .getfield 36, 5, 0, [], .null),
  (16, .getfield 59, 8, 1, [], .null),
  (19, .getfield 60, 0, 1, [], .null),
  (22, .putfield 64, 1, 2, [], .null),
  (25, .aload_n 0, 0, 0, [], .null),
  (26, .getfield 51, 5, 1, [], .null),
  (29, .aload_n 0, 0, 0, [], .null),
  (30, .getfield 36, 5, 0, [], .null),
  (33, .getfield 42, 8, 0, [], .null),
  (36, .getfield 65, 3, 4, [], .null),
  (39, .putfield 70, 1, 3, [], .null),
  (42, .aload_n 0, 0, 0, [], .null),
  (43, .getfield 12, 5, 2, [], .null),
  (46, .aload_n 0, 0, 0, [], .null),
  (47, .getfield 36, 5, 0, [], .null),
  (50, .getfield 59, 8, 1, [], .null),
  (53, .invokevirtual 71, 2, 0, [], .null),
  (56, .aload_n 0, 0, 0, [], .null),
  (57, .getfield 21, 5, 3, [], .null),
  (60, .aload_n 0, 0, 0, [], .null),
  (61, .getfield 36, 5, 0, [], .null),
  (64, .getfield 75, 8, 2, [], .null),
  (67, .invokevirtual 76, 37, 0, [], .null),
  (70, .return_, 0, 0, [], .null)]
def xm_m42 : xm_M := (6, ⟨"StairNews$Outlook", "prepare", "(LStairNews$Rule;)V"⟩, prog_8_method_2_code, 2, (Option.none : Option Jvm.ClassFile.FieldType), 1, 0, 0, xm_c42)
def xm_c43 : List xm_E := [(0, .aload_n 0, 0, 0, [], .null),
  (1, .getfield 36, 5, 0, [], .null),
  (4, .getfield 59, 8, 1, [], .null),
  (7, .getfield 79, 0, 0, [], .null),
  (10, .istore_n 1, 1, 0, [], .null),
  (11, .aload_n 0, 0, 0, [], .null),
  (12, .getfield 36, 5, 0, [], .null),
  (15, .getfield 59, 8, 1, [], .null),
  (18, .aload_n 0, 0, 0, [], .null),
  (19, .getfield 36, 5, 0, [], .null),
  (22, .getfield 42, 8, 0, [], .null),
  (25, .invokevirtual 82, 8, 0, [], .null),
  (28, .lstore_n 2, 2, 0, [], .null),
  (29, .aload_n 0, 0, 0, [], .null),
  (30, .getfield 51, 5, 1, [], .null),
  (33, .aload_n 0, 0, 0, [], .null),
  (34, .getfield 36, 5, 0, [], .null),
  (37, .getfield 75, 8, 2, [], .null),
  (40, .lload_n 2, 2, 0, [], .null),
  (41, .iload_n 1, 1, 0, [], .null),
  (42, .invokevirtual 86, 13, 0, [], .null),
  (45, .ireturn, 0, 0, [], .null)]
def xm_m43 : xm_M := (6, ⟨"StairNews$Outlook", "ringNow", "()I"⟩, prog_8_method_3_code, 4, (Option.some Jvm.ClassFile.FieldType.int), 0, 0, 0, xm_c43)
def xm_c44 : List xm_E := [(0, .aload_n 0, 0, 0, [], .null),
  (1, .aload_n 0, 0, 0, [], .null),
  (2, .getfield 12, 5, 2, [], .null),
  (5, .getfield 79, 0, 0, [], .null),
  (8, .putfield 90, 5, 7, [], .null),
  (11, .iconst 0, 0, 0, [], .int 0),
  (12, .istore_n 2, 2, 0, [], .null),
  (13, .iload_n 2, 2, 0, [], .null),
  (14, .iload_n 1, 1, 0, [], .null),
  (15, .if_icmp .ge 38, 27, 0, [], .null),
  (18, .iload_n 2, 2, 0, [], .null),
  (19, .aload_n 0, 0, 0, [], .null),
  (20, .getfield 25, 5, 4, [], .null),
  (23, .arraylength, 0, 0, [], .null),
  (24, .if_icmp .ge 29, 27, 0, [], .null),
  (27, .aload_n 0, 0, 0, [], .null),
  (28, .getfield 25, 5, 4, [], .null),
  (31, .iload_n 2, 2, 0, [], .null),
  (32, .aload_n 0, 0, 0, [], .null),
  (33, .getfield 12, 5, 2, [], .null),
  (36, .aload_n 0, 0, 0, [], .null),
  (37, .getfield 36, 5, 0, [], .null),
  (40, .getfield 42, 8, 0, [], .null),
  (43, .invokevirtual 82, 8, 0, [], .null),
  (46, .lastore, 0, 0, [], .null),
  (47, .iinc 2 1, 2, 0, [], .int 1),
  (50, .goto (-37), 7, 0, [], .null),
  (53, .return_, 0, 0, [], .null)]
def xm_m44 : xm_M := (6, ⟨"StairNews$Outlook", "walk", "(I)V"⟩, prog_8_method_4_code, 3, (Option.none : Option Jvm.ClassFile.FieldType), 1, 0, 0, xm_c44)
def xm_c45 : List xm_E := [(0, .iload_n 1, 1, 0, [], .null),
  (1, .istore_n 3, 3, 0, [], .null),
  (2, .iload_n 3, 3, 0, [], .null),
  (3, .iload_n 2, 2, 0, [], .null),
  (4, .if_icmp .ge 62, 34, 0, [], .null),
  (7, .iload_n 3, 3, 0, [], .null),
  (8, .aload_n 0, 0, 0, [], .null),
  (9, .getfield 25, 5, 4, [], .null),
  (12, .arraylength, 0, 0, [], .null),
  (13, .if_icmp .ge 53, 34, 0, [], .null),
  (16, .aload_n 0, 0, 0, [], .null),
  (17, .getfield 51, 5, 1, [], .null),
  (20, .aload_n 0, 0, 0, [], .null),
  (21, .getfield 21, 5, 3, [], .null),
  (24, .invokevirtual 93, 12, 0, [], .null),
  (27, .ifCond .eq 39, 34, 0, [], .null),
  (30, .aload_n 0, 0, 0, [], .null),
  (31, .getfield 51, 5, 1, [], .null),
  (34, .aload_n 0, 0, 0, [], .null),
  (35, .getfield 21, 5, 3, [], .null),
  (38, .aload_n 0, 0, 0, [], .null),
  (39, .getfield 25, 5, 4, [], .null),
  (42, .iload_n 3, 3, 0, [], .null),
  (43, .laload, 0, 0, [], .null),
  (44, .aload_n 0, 0, 0, [], .null),
  (45, .getfield 90, 5, 7, [], .null),
  (48, .iload_n 3, 3, 0, [], .null),
  (49, .iadd, 0, 0, [], .null),
  (50, .sipush 999, 0, 0, [], .int 999),
  (53, .invokestatic 97, 1002, 0, [], .null),
  (56, .invokevirtual 86, 13, 0, [], .null),
  (59, .pop, 0, 0, [], .null),
  (60, .iinc 3 1, 3, 0, [], .int 1),
  (63, .goto (-61), 2, 0, [], .null),
  (66, .return_, 0, 0, [], .null)]
def xm_m45 : xm_M := (6, ⟨"StairNews$Outlook", "talk", "(II)V"⟩, prog_8_method_5_code, 4, (Option.none : Option Jvm.ClassFile.FieldType), 2, 0, 0, xm_c45)
def xm_c46 : List xm_E := [(0, .iconst 1, 0, 0, [], .int 1),
  (1, .aload_n 0, 0, 0, [], .null),
  (2, .getfield 36, 5, 0, [], .null),
  (5, .getfield 42, 8, 0, [], .null),
  (8, .getfield 103, 3, 1, [], .null),
  (11, .ishl, 0, 0, [], .null),
  (12, .iconst 1, 0, 0, [], .int 1),
  (13, .isub, 0, 0, [], .null),
  (14, .aload_n 0, 0, 0, [], .null),
  (15, .getfield 36, 5, 0, [], .null),
  (18, .getfield 42, 8, 0, [], .null),
  (21, .getfield 65, 3, 4, [], .null),
  (24, .iconst (-1), 0, 0, [], .int (-1)),
  (25, .ixor, 0, 0, [], .null),
  (26, .iand, 0, 0, [], .null),
  (27, .aload_n 0, 0, 0, [], .null),
  (28, .getfield 36, 5, 0, [], .null),
  (31, .getfield 75, 8, 2, [], .null),
  (34, .getfield 106, 4, 0, [], .null),
  (37, .iconst (-1), 0, 0, [], .int (-1)),
  (38, .ixor, 0, 0, [], .null),
  (39, .iand, 0, 0, [], .null),
  (40, .istore 4, 4, 0, [], .null),
  (42, .aload_n 0, 0, 0, [], .null),
  (43, .iload_n 1, 1, 0, [], .null),
  (44, .invokevirtual 109, 48, 0, [], .null),
  (47, .istore 5, 5, 0, [], .null),
  (49, .aload_n 0, 0, 0, [], .null),
  (50, .iload_n 3, 3, 0, [], .null),
  (51, .invokevirtual 109, 48, 0, [], .null),
  (54, .istore 6, 6, 0, [], .null),
  (56, .aload_n 0, 0, 0, [], .null),
  (57, .iload_n 2, 2, 0, [], .null),
  (58, .invokevirtual 113, 44, 0, [], .null),
  (61, .iconst 0, 0, 0, [], .int 0),
  (62, .istore 7, 7, 0, [], .null),
  (64, .iconst 0, 0, 0, [], .int 0),
  (65, .istore 8, 8, 0, [], .null),
  (67, .iload 8, 8, 0, [], .null),
  (69, .bipush 127, 0, 0, [], .int 127),
  (71, .if_icmp .gt 129, 99, 0, [], .null),
  (74, .iload 7, 7, 0, [], .null),
  (76, .iconst (-1), 0, 0, [], .int (-1)),
  (77, .if_icmp .eq 123, 99, 0, [], .null),
  (80, .aload_n 0, 0, 0, [], .null),
  (81, .getfield 21, 5, 3, [], .null),
  (84, .aload_n 0, 0, 0, [], .null),
  (85, .getfield 36, 5, 0, [], .null),
  (88, .getfield 75, 8, 2, [], .null),
  (91, .invokevirtual 76, 37, 0, [], .null),
  (94, .iconst 0, 0, 0, [], .int 0),
  (95, .istore 9, 9, 0, [], .null),
  (97, .iload 9, 9, 0, [], .null),
  (99, .aload_n 0, 0, 0, [], .null),
  (100, .getfield 36, 5, 0, [], .null),
  (103, .getfield 42, 8, 0, [], .null),
  (106, .getfield 103, 3, 1, [], .null),
  (109, .if_icmp .ge 41, 75, 0, [], .null),
  (112, .iload 7, 7, 0, [], .null),
  (114, .iload 9, 9, 0, [], .null),
  (116, .invokestatic 117, 120, 3, [], .null),
  (119, .iconst 1, 0, 0, [], .int 1),
  (120, .if_icmp .ne 24, 73, 0, [], .null),
  (123, .aload_n 0, 0, 0, [], .null),
  (124, .getfield 21, 5, 3, [], .null),
  (127, .iload 9, 9, 0, [], .null),
  (129, .iconst 0, 0, 0, [], .int 0),
  (130, .iconst (-1), 0, 0, [], .int (-1)),
  (131, .aload_n 0, 0, 0, [], .null),
  (132, .getfield 36, 5, 0, [], .null),
  (135, .getfield 59, 8, 1, [], .null),
  (138, .getfield 79, 0, 0, [], .null),
  (141, .invokevirtual 120, 38, 0, [], .null),
  (144, .iinc 9 1, 9, 0, [], .int 1),
  (147, .goto (-50), 52, 0, [], .null),
  (150, .aload_n 0, 0, 0, [], .null),
  (151, .iconst 0, 0, 0, [], .int 0),
  (152, .iload_n 2, 2, 0, [], .null),
  (153, .invokevirtual 124, 45, 0, [], .null),
  (156, .aload_n 0, 0, 0, [], .null),
  (157, .getfield 21, 5, 3, [], .null),
  (160, .getfield 106, 4, 0, [], .null),
  (163, .iload 5, 5, 0, [], .null),
  (165, .iand, 0, 0, [], .null),
  (166, .ifCond .eq 19, 93, 0, [], .null),
  (169, .aload_n 0, 0, 0, [], .null),
  (170, .getfield 21, 5, 3, [], .null),
  (173, .getfield 106, 4, 0, [], .null),
  (176, .iload 6, 6, 0, [], .null),
  (178, .iand, 0, 0, [], .null),
  (179, .ifCond .ne 6, 93, 0, [], .null),
  (182, .iload 7, 7, 0, [], .null),
  (184, .ireturn, 0, 0, [], .null),
  (185, .iload 7, 7, 0, [], .null),
  (187, .iload 4, 4, 0, [], .null),
  (189, .invokestatic 128, 49, 1, [], .null),
  (192, .istore 7, 7, 0, [], .null),
  (194, .iinc 8 1, 8, 0, [], .int 1),
  (197, .goto (-130), 38, 0, [], .null),
  (200, .bipush (-2), 0, 0, [], .int (-2)),
  (202, .ireturn, 0, 0, [], .null)]
def xm_m46 : xm_M := (6, ⟨"StairNews$Outlook", "leastWhispered", "(III)I"⟩, prog_8_method_6_code, 10, (Option.some Jvm.ClassFile.FieldType.int), 3, 0, 0, xm_c46)
def xm_c47 : List xm_E := [(0, .iconst 1, 0, 0, [], .int 1),
  (1, .aload_n 0, 0, 0, [], .null),
  (2, .getfield 36, 5, 0, [], .null),
  (5, .getfield 42, 8, 0, [], .null),
  (8, .getfield 103, 3, 1, [], .null),
  (11, .ishl, 0, 0, [], .null),
  (12, .iconst 1, 0, 0, [], .int 1),
  (13, .isub, 0, 0, [], .null),
  (14, .aload_n 0, 0, 0, [], .null),
  (15, .getfield 36, 5, 0, [], .null),
  (18, .getfield 75, 8, 2, [], .null),
  (21, .getfield 106, 4, 0, [], .null),
  (24, .iconst (-1), 0, 0, [], .int (-1)),
  (25, .ixor, 0, 0, [], .null),
  (26, .iand, 0, 0, [], .null),
  (27, .iconst 1, 0, 0, [], .int 1),
  (28, .iload_n 1, 1, 0, [], .null),
  (29, .ishl, 0, 0, [], .null),
  (30, .iconst (-1), 0, 0, [], .int (-1)),
  (31, .ixor, 0, 0, [], .null),
  (32, .iand, 0, 0, [], .null),
  (33, .istore_n 3, 3, 0, [], .null),
  (34, .aload_n 0, 0, 0, [], .null),
  (35, .iload_n 2, 2, 0, [], .null),
  (36, .invokevirtual 113, 44, 0, [], .null),
  (39, .iconst 0, 0, 0, [], .int 0),
  (40, .istore 4, 4, 0, [], .null),
  (42, .iconst 0, 0, 0, [], .int 0),
  (43, .istore 5, 5, 0, [], .null),
  (45, .iload 5, 5, 0, [], .null),
  (47, .bipush 127, 0, 0, [], .int 127),
  (49, .if_icmp .gt 80, 68, 0, [], .null),
  (52, .iload 4, 4, 0, [], .null),
  (54, .iconst (-1), 0, 0, [], .int (-1)),
  (55, .if_icmp .eq 74, 68, 0, [], .null),
  (58, .aload_n 0, 0, 0, [], .null),
  (59, .getfield 21, 5, 3, [], .null),
  (62, .aload_n 0, 0, 0, [], .null),
  (63, .getfield 36, 5, 0, [], .null),
  (66, .getfield 75, 8, 2, [], .null),
  (69, .invokevirtual 76, 37, 0, [], .null),
  (72, .aload_n 0, 0, 0, [], .null),
  (73, .getfield 51, 5, 1, [], .null),
  (76, .aload_n 0, 0, 0, [], .null),
  (77, .getfield 36, 5, 0, [], .null),
  (80, .getfield 42, 8, 0, [], .null),
  (83, .getfield 65, 3, 4, [], .null),
  (86, .iload 4, 4, 0, [], .null),
  (88, .ior, 0, 0, [], .null),
  (89, .putfield 70, 1, 3, [], .null),
  (92, .aload_n 0, 0, 0, [], .null),
  (93, .iconst 0, 0, 0, [], .int 0),
  (94, .iload_n 2, 2, 0, [], .null),
  (95, .invokevirtual 124, 45, 0, [], .null),
  (98, .aload_n 0, 0, 0, [], .null),
  (99, .getfield 21, 5, 3, [], .null),
  (102, .getfield 106, 4, 0, [], .null),
  (105, .iload_n 1, 1, 0, [], .null),
  (106, .invokestatic 117, 120, 3, [], .null),
  (109, .ifCond .ne 6, 62, 0, [], .null),
  (112, .iload 4, 4, 0, [], .null),
  (114, .ireturn, 0, 0, [], .null),
  (115, .iload 4, 4, 0, [], .null),
  (117, .iload_n 3, 3, 0, [], .null),
  (118, .invokestatic 128, 49, 1, [], .null),
  (121, .istore 4, 4, 0, [], .null),
  (123, .iinc 5 1, 5, 0, [], .int 1),
  (126, .goto (-81), 29, 0, [], .null),
  (129, .bipush (-2), 0, 0, [], .int (-2)),
  (131, .ireturn, 0, 0, [], .null)]
def xm_m47 : xm_M := (6, ⟨"StairNews$Outlook", "leastDeafened", "(II)I"⟩, prog_8_method_7_code, 6, (Option.some Jvm.ClassFile.FieldType.int), 2, 0, 0, xm_c47)
def xm_c48 : List xm_E := [(0, .iconst 0, 0, 0, [], .int 0),
  (1, .istore_n 2, 2, 0, [], .null),
  (2, .iconst 0, 0, 0, [], .int 0),
  (3, .istore_n 3, 3, 0, [], .null),
  (4, .iload_n 3, 3, 0, [], .null),
  (5, .aload_n 0, 0, 0, [], .null),
  (6, .getfield 36, 5, 0, [], .null),
  (9, .getfield 42, 8, 0, [], .null),
  (12, .getfield 103, 3, 1, [], .null),
  (15, .if_icmp .ge 35, 28, 0, [], .null),
  (18, .iload_n 2, 2, 0, [], .null),
  (19, .aload_n 0, 0, 0, [], .null),
  (20, .getfield 36, 5, 0, [], .null),
  (23, .getfield 42, 8, 0, [], .null),
  (26, .getfield 131, 3, 10, [], .null),
  (29, .iload_n 3, 3, 0, [], .null),
  (30, .iaload, 0, 0, [], .null),
  (31, .iload_n 1, 1, 0, [], .null),
  (32, .if_icmp .ne 9, 23, 0, [], .null),
  (35, .iconst 1, 0, 0, [], .int 1),
  (36, .iload_n 3, 3, 0, [], .null),
  (37, .ishl, 0, 0, [], .null),
  (38, .goto 4, 24, 0, [], .null),
  (41, .iconst 0, 0, 0, [], .int 0),
  (42, .ior, 0, 0, [], .null),
  (43, .istore_n 2, 2, 0, [], .null),
  (44, .iinc 3 1, 3, 0, [], .int 1),
  (47, .goto (-43), 4, 0, [], .null),
  (50, .iload_n 2, 2, 0, [], .null),
  (51, .ireturn, 0, 0, [], .null)]
def xm_m48 : xm_M := (6, ⟨"StairNews$Outlook", "homesOn", "(I)I"⟩, prog_8_method_8_code, 4, (Option.some Jvm.ClassFile.FieldType.int), 1, 0, 0, xm_c48)
def xm_c49 : List xm_E := [(0, .iload_n 0, 0, 0, [], .null),
  (1, .invokestatic 134, 239, 1, [], .null),
  (4, .istore_n 2, 2, 0, [], .null),
  (5, .iload_n 0, 0, 0, [], .null),
  (6, .iconst 1, 0, 0, [], .int 1),
  (7, .iadd, 0, 0, [], .null),
  (8, .istore_n 3, 3, 0, [], .null),
  (9, .iload_n 2, 2, 0, [], .null),
  (10, .istore 4, 4, 0, [], .null),
  (12, .iload 4, 4, 0, [], .null),
  (14, .bipush 7, 0, 0, [], .int 7),
  (16, .if_icmp .gt 49, 35, 0, [], .null),
  (19, .iload_n 3, 3, 0, [], .null),
  (20, .istore 5, 5, 0, [], .null),
  (22, .iload 5, 5, 0, [], .null),
  (24, .bipush 127, 0, 0, [], .int 127),
  (26, .if_icmp .gt 31, 31, 0, [], .null),
  (29, .iload 5, 5, 0, [], .null),
  (31, .iload_n 1, 1, 0, [], .null),
  (32, .iconst (-1), 0, 0, [], .int (-1)),
  (33, .ixor, 0, 0, [], .null),
  (34, .iand, 0, 0, [], .null),
  (35, .ifCond .ne 16, 29, 0, [], .null),
  (38, .iload 5, 5, 0, [], .null),
  (40, .invokestatic 134, 239, 1, [], .null),
  (43, .iload 4, 4, 0, [], .null),
  (45, .if_icmp .ne 6, 29, 0, [], .null),
  (48, .iload 5, 5, 0, [], .null),
  (50, .ireturn, 0, 0, [], .null),
  (51, .iinc 5 1, 5, 0, [], .int 1),
  (54, .goto (-32), 14, 0, [], .null),
  (57, .iconst 0, 0, 0, [], .int 0),
  (58, .istore_n 3, 3, 0, [], .null),
  (59, .iinc 4 1, 4, 0, [], .int 1),
  (62, .goto (-50), 9, 0, [], .null),
  (65, .iconst (-1), 0, 0, [], .int (-1)),
  (66, .ireturn, 0, 0, [], .null)]
def xm_m49 : xm_M := (6, ⟨"StairNews$Outlook", "nextSet", "(II)I"⟩, prog_8_method_9_code, 6, (Option.some Jvm.ClassFile.FieldType.int), 2, 0, 0, xm_c49)
def xm_c50 : List xm_E := [(0, .aload_n 0, 0, 0, [], .null),
  (1, .getfield 36, 5, 0, [], .null),
  (4, .getfield 59, 8, 1, [], .null),
  (7, .getfield 79, 0, 0, [], .null),
  (10, .istore_n 1, 1, 0, [], .null),
  (11, .aload_n 0, 0, 0, [], .null),
  (12, .iconst 0, 0, 0, [], .int 0),
  (13, .putfield 139, 5, 8, [], .null),
  (16, .aload_n 0, 0, 0, [], .null),
  (17, .getfield 12, 5, 2, [], .null),
  (20, .aload_n 0, 0, 0, [], .null),
  (21, .getfield 36, 5, 0, [], .null),
  (24, .getfield 42, 8, 0, [], .null),
  (27, .invokevirtual 142, 3, 0, [], .null),
  (30, .aload_n 0, 0, 0, [], .null),
  (31, .getfield 51, 5, 1, [], .null),
  (34, .aload_n 0, 0, 0, [], .null),
  (35, .getfield 36, 5, 0, [], .null),
  (38, .getfield 42, 8, 0, [], .null),
  (41, .getfield 145, 3, 5, [], .null),
  (44, .putfield 64, 1, 2, [], .null),
  (47, .aload_n 0, 0, 0, [], .null),
  (48, .iload_n 1, 1, 0, [], .null),
  (49, .invokevirtual 113, 44, 0, [], .null),
  (52, .iconst 0, 0, 0, [], .int 0),
  (53, .istore_n 2, 2, 0, [], .null),
  (54, .iload_n 2, 2, 0, [], .null),
  (55, .aload_n 0, 0, 0, [], .null),
  (56, .getfield 36, 5, 0, [], .null),
  (59, .getfield 42, 8, 0, [], .null),
  (62, .getfield 103, 3, 1, [], .null),
  (65, .if_icmp .ge 89, 75, 0, [], .null),
  (68, .iconst 0, 0, 0, [], .int 0),
  (69, .istore_n 3, 3, 0, [], .null),
  (70, .iload_n 3, 3, 0, [], .null),
  (71, .bipush 40, 0, 0, [], .int 40),
  (73, .if_icmp .gt 75, 73, 0, [], .null),
  (76, .iload_n 3, 3, 0, [], .null),
  (77, .iload_n 1, 1, 0, [], .null),
  (78, .if_icmp .gt 70, 73, 0, [], .null),
  (81, .aload_n 0, 0, 0, [], .null),
  (82, .getfield 36, 5, 0, [], .null),
  (85, .getfield 42, 8, 0, [], .null),
  (88, .getfield 65, 3, 4, [], .null),
  (91, .iload_n 2, 2, 0, [], .null),
  (92, .invokestatic 117, 120, 3, [], .null),
  (95, .ifCond .ne 53, 73, 0, [], .null),
  (98, .aload_n 0, 0, 0, [], .null),
  (99, .getfield 21, 5, 3, [], .null),
  (102, .invokevirtual 146, 36, 0, [], .null),
  (105, .aload_n 0, 0, 0, [], .null),
  (106, .getfield 21, 5, 3, [], .null),
  (109, .iload_n 2, 2, 0, [], .null),
  (110, .iconst 0, 0, 0, [], .int 0),
  (111, .iconst (-1), 0, 0, [], .int (-1)),
  (112, .iload_n 3, 3, 0, [], .null),
  (113, .invokevirtual 120, 38, 0, [], .null),
  (116, .aload_n 0, 0, 0, [], .null),
  (117, .iload_n 3, 3, 0, [], .null),
  (118, .iload_n 1, 1, 0, [], .null),
  (119, .invokevirtual 124, 45, 0, [], .null),
  (122, .aload_n 0, 0, 0, [], .null),
  (123, .getfield 36, 5, 0, [], .null),
  (126, .aload_n 0, 0, 0, [], .null),
  (127, .getfield 21, 5, 3, [], .null),
  (130, .invokevirtual 149, 77, 0, [], .null),
  (133, .ifCond .eq 9, 71, 0, [], .null),
  (136, .aload_n 0, 0, 0, [], .null),
  (137, .iload_n 2, 2, 0, [], .null),
  (138, .iload_n 3, 3, 0, [], .null),
  (139, .invokevirtual 152, 51, 0, [], .null),
  (142, .iinc 3 1, 3, 0, [], .int 1),
  (145, .goto (-75), 34, 0, [], .null),
  (148, .iinc 2 1, 2, 0, [], .int 1),
  (151, .goto (-97), 26, 0, [], .null),
  (154, .return_, 0, 0, [], .null)]
def xm_m50 : xm_M := (6, ⟨"StairNews$Outlook", "findStarts", "()V"⟩, prog_8_method_10_code, 4, (Option.none : Option Jvm.ClassFile.FieldType), 0, 0, 0, xm_c50)
end
section
def xm_c51 : List xm_E := [(0, .aload_n 0, 0, 0, [], .null),
  (1, .getfield 139, 5, 8, [], .null),
  (4, .ifCond .ne 13, 9, 0, [], .null),
  (7, .aload_n 0, 0, 0, [], .null),
  (8, .iload_n 1, 1, 0, [], .null),
  (9, .putfield 155, 5, 9, [], .null),
  (12, .aload_n 0, 0, 0, [], .null),
  (13, .iload_n 2, 2, 0, [], .null),
  (14, .putfield 158, 5, 10, [], .null),
  (17, .iconst 0, 0, 0, [], .int 0),
  (18, .istore_n 3, 3, 0, [], .null),
  (19, .iload_n 3, 3, 0, [], .null),
  (20, .bipush 7, 0, 0, [], .int 7),
  (22, .if_icmp .ge 41, 33, 0, [], .null),
  (25, .aload_n 0, 0, 0, [], .null),
  (26, .getfield 139, 5, 8, [], .null),
  (29, .sipush 287, 0, 0, [], .int 287),
  (32, .if_icmp .ge 31, 33, 0, [], .null),
  (35, .aload_n 0, 0, 0, [], .null),
  (36, .getfield 29, 5, 5, [], .null),
  (39, .aload_n 0, 0, 0, [], .null),
  (40, .getfield 139, 5, 8, [], .null),
  (43, .bipush 7, 0, 0, [], .int 7),
  (45, .imul, 0, 0, [], .null),
  (46, .iload_n 3, 3, 0, [], .null),
  (47, .iadd, 0, 0, [], .null),
  (48, .aload_n 0, 0, 0, [], .null),
  (49, .getfield 21, 5, 3, [], .null),
  (52, .iload_n 3, 3, 0, [], .null),
  (53, .invokevirtual 161, 40, 0, [], .null),
  (56, .iastore, 0, 0, [], .null),
  (57, .iinc 3 1, 3, 0, [], .int 1),
  (60, .goto (-41), 11, 0, [], .null),
  (63, .aload_n 0, 0, 0, [], .null),
  (64, .dup, 0, 0, [], .null),
  (65, .getfield 139, 5, 8, [], .null),
  (68, .iconst 1, 0, 0, [], .int 1),
  (69, .iadd, 0, 0, [], .null),
  (70, .putfield 139, 5, 8, [], .null),
  (73, .return_, 0, 0, [], .null)]
def xm_m51 : xm_M := (6, ⟨"StairNews$Outlook", "noteStart", "(II)V"⟩, prog_8_method_11_code, 4, (Option.none : Option Jvm.ClassFile.FieldType), 2, 0, 0, xm_c51)
def xm_c52 : List xm_E := [(0, .iconst (-1), 0, 0, [], .int (-1)),
  (1, .istore_n 1, 1, 0, [], .null),
  (2, .iconst 0, 0, 0, [], .int 0),
  (3, .istore_n 2, 2, 0, [], .null),
  (4, .iload_n 2, 2, 0, [], .null),
  (5, .aload_n 0, 0, 0, [], .null),
  (6, .getfield 36, 5, 0, [], .null),
  (9, .getfield 42, 8, 0, [], .null),
  (12, .getfield 103, 3, 1, [], .null),
  (15, .if_icmp .ge 35, 28, 0, [], .null),
  (18, .aload_n 0, 0, 0, [], .null),
  (19, .iload_n 2, 2, 0, [], .null),
  (20, .invokevirtual 164, 53, 0, [], .null),
  (23, .istore_n 3, 3, 0, [], .null),
  (24, .iload_n 1, 1, 0, [], .null),
  (25, .iconst (-1), 0, 0, [], .int (-1)),
  (26, .if_icmp .eq 11, 21, 0, [], .null),
  (29, .iload_n 3, 3, 0, [], .null),
  (30, .aload_n 0, 0, 0, [], .null),
  (31, .getfield 167, 5, 11, [], .null),
  (34, .if_icmp .ge 10, 26, 0, [], .null),
  (37, .iload_n 2, 2, 0, [], .null),
  (38, .istore_n 1, 1, 0, [], .null),
  (39, .aload_n 0, 0, 0, [], .null),
  (40, .iload_n 3, 3, 0, [], .null),
  (41, .putfield 167, 5, 11, [], .null),
  (44, .iinc 2 1, 2, 0, [], .int 1),
  (47, .goto (-43), 4, 0, [], .null),
  (50, .iload_n 1, 1, 0, [], .null),
  (51, .ireturn, 0, 0, [], .null)]
def xm_m52 : xm_M := (6, ⟨"StairNews$Outlook", "bestAsked", "()I"⟩, prog_8_method_12_code, 4, (Option.some Jvm.ClassFile.FieldType.int), 0, 0, 0, xm_c52)
def xm_c53 : List xm_E := [(0, .iconst 0, 0, 0, [], .int 0),
  (1, .istore_n 2, 2, 0, [], .null),
  (2, .aload_n 0, 0, 0, [], .null),
  (3, .getfield 33, 5, 6, [], .null),
  (6, .iconst 0, 0, 0, [], .int 0),
  (7, .invokestatic 170, 240, 1, [], .null),
  (10, .iconst 0, 0, 0, [], .int 0),
  (11, .istore_n 3, 3, 0, [], .null),
  (12, .iload_n 3, 3, 0, [], .null),
  (13, .aload_n 0, 0, 0, [], .null),
  (14, .getfield 139, 5, 8, [], .null),
  (17, .if_icmp .ge 88, 59, 0, [], .null),
  (20, .iload_n 3, 3, 0, [], .null),
  (21, .sipush 287, 0, 0, [], .int 287),
  (24, .if_icmp .ge 81, 59, 0, [], .null),
  (27, .aload_n 0, 0, 0, [], .null),
  (28, .getfield 29, 5, 5, [], .null),
  (31, .iload_n 3, 3, 0, [], .null),
  (32, .bipush 7, 0, 0, [], .int 7),
  (34, .imul, 0, 0, [], .null),
  (35, .iload_n 1, 1, 0, [], .null),
  (36, .iadd, 0, 0, [], .null),
  (37, .iaload, 0, 0, [], .null),
  (38, .istore 4, 4, 0, [], .null),
  (40, .iload 4, 4, 0, [], .null),
  (42, .sipush (-1000), 0, 0, [], .int (-1000)),
  (45, .if_icmp .ne 7, 29, 0, [], .null),
  (48, .iconst 0, 0, 0, [], .int 0),
  (49, .goto 10, 34, 0, [], .null),
  (52, .iload 4, 4, 0, [], .null),
  (54, .bipush 54, 0, 0, [], .int 54),
  (56, .iadd, 0, 0, [], .null),
  (57, .iconst 1, 0, 0, [], .int 1),
  (58, .iadd, 0, 0, [], .null),
  (59, .istore 5, 5, 0, [], .null),
  (61, .iload 5, 5, 0, [], .null),
  (63, .ifCond .lt 36, 57, 0, [], .null),
  (66, .iload 5, 5, 0, [], .null),
  (68, .aload_n 0, 0, 0, [], .null),
  (69, .getfield 33, 5, 6, [], .null),
  (72, .arraylength, 0, 0, [], .null),
  (73, .if_icmp .ge 26, 57, 0, [], .null),
  (76, .aload_n 0, 0, 0, [], .null),
  (77, .getfield 33, 5, 6, [], .null),
  (80, .iload 5, 5, 0, [], .null),
  (82, .dup2, 0, 0, [], .null),
  (83, .iaload, 0, 0, [], .null),
  (84, .iconst 1, 0, 0, [], .int 1),
  (85, .iadd, 0, 0, [], .null),
  (86, .iastore, 0, 0, [], .null),
  (87, .iload_n 2, 2, 0, [], .null),
  (88, .aload_n 0, 0, 0, [], .null),
  (89, .getfield 33, 5, 6, [], .null),
  (92, .iload 5, 5, 0, [], .null),
  (94, .iaload, 0, 0, [], .null),
  (95, .invokestatic 176, 1002, 0, [], .null),
  (98, .istore_n 2, 2, 0, [], .null),
  (99, .iinc 3 1, 3, 0, [], .int 1),
  (102, .goto (-90), 8, 0, [], .null),
  (105, .iload_n 2, 2, 0, [], .null),
  (106, .ireturn, 0, 0, [], .null)]
def xm_m53 : xm_M := (6, ⟨"StairNews$Outlook", "mostAlike", "(I)I"⟩, prog_8_method_13_code, 6, (Option.some Jvm.ClassFile.FieldType.int), 1, 0, 0, xm_c53)
def xm_c54 : List xm_E := [(0, .bipush (-2), 0, 0, [], .int (-2)),
  (2, .istore_n 2, 2, 0, [], .null),
  (3, .aload_n 0, 0, 0, [], .null),
  (4, .iload_n 1, 1, 0, [], .null),
  (5, .invokevirtual 113, 44, 0, [], .null),
  (8, .iconst 0, 0, 0, [], .int 0),
  (9, .istore_n 3, 3, 0, [], .null),
  (10, .iload_n 3, 3, 0, [], .null),
  (11, .aload_n 0, 0, 0, [], .null),
  (12, .getfield 36, 5, 0, [], .null),
  (15, .getfield 42, 8, 0, [], .null),
  (18, .getfield 179, 3, 0, [], .null),
  (21, .if_icmp .ge 106, 62, 0, [], .null),
  (24, .aload_n 0, 0, 0, [], .null),
  (25, .getfield 36, 5, 0, [], .null),
  (28, .getfield 59, 8, 1, [], .null),
  (31, .getfield 60, 0, 1, [], .null),
  (34, .iload_n 3, 3, 0, [], .null),
  (35, .invokestatic 117, 120, 3, [], .null),
  (38, .iconst 1, 0, 0, [], .int 1),
  (39, .if_icmp .ne 6, 22, 0, [], .null),
  (42, .goto 79, 60, 0, [], .null),
  (45, .aload_n 0, 0, 0, [], .null),
  (46, .getfield 21, 5, 3, [], .null),
  (49, .aload_n 0, 0, 0, [], .null),
  (50, .getfield 36, 5, 0, [], .null),
  (53, .getfield 75, 8, 2, [], .null),
  (56, .invokevirtual 76, 37, 0, [], .null),
  (59, .aload_n 0, 0, 0, [], .null),
  (60, .getfield 51, 5, 1, [], .null),
  (63, .aload_n 0, 0, 0, [], .null),
  (64, .getfield 36, 5, 0, [], .null),
  (67, .getfield 59, 8, 1, [], .null),
  (70, .getfield 60, 0, 1, [], .null),
  (73, .iconst 1, 0, 0, [], .int 1),
  (74, .iload_n 3, 3, 0, [], .null),
  (75, .ishl, 0, 0, [], .null),
  (76, .ior, 0, 0, [], .null),
  (77, .putfield 64, 1, 2, [], .null),
  (80, .aload_n 0, 0, 0, [], .null),
  (81, .iconst 0, 0, 0, [], .int 0),
  (82, .iload_n 1, 1, 0, [], .null),
  (83, .invokevirtual 124, 45, 0, [], .null),
  (86, .aload_n 0, 0, 0, [], .null),
  (87, .getfield 21, 5, 3, [], .null),
  (90, .getfield 106, 4, 0, [], .null),
  (93, .invokestatic 134, 239, 1, [], .null),
  (96, .istore 4, 4, 0, [], .null),
  (98, .iload_n 2, 2, 0, [], .null),
  (99, .bipush (-2), 0, 0, [], .int (-2)),
  (101, .if_icmp .eq 12, 55, 0, [], .null),
  (104, .iload 4, 4, 0, [], .null),
  (106, .aload_n 0, 0, 0, [], .null),
  (107, .getfield 182, 5, 12, [], .null),
  (110, .if_icmp .ge 11, 60, 0, [], .null),
  (113, .iload_n 3, 3, 0, [], .null),
  (114, .istore_n 2, 2, 0, [], .null),
  (115, .aload_n 0, 0, 0, [], .null),
  (116, .iload 4, 4, 0, [], .null),
  (118, .putfield 182, 5, 12, [], .null),
  (121, .iinc 3 1, 3, 0, [], .int 1),
  (124, .goto (-114), 7, 0, [], .null),
  (127, .iload_n 2, 2, 0, [], .null),
  (128, .ireturn, 0, 0, [], .null)]
def xm_m54 : xm_M := (6, ⟨"StairNews$Outlook", "bestBlocked", "(I)I"⟩, prog_8_method_14_code, 5, (Option.some Jvm.ClassFile.FieldType.int), 1, 0, 0, xm_c54)
def xm_c55 : List xm_E := [(0, .aload_n 0, 0, 0, [], .null),
  (1, .bipush 100, 0, 0, [], .int 100),
  (3, .invokevirtual 113, 44, 0, [], .null),
  (6, .aload_n 0, 0, 0, [], .null),
  (7, .iconst 0, 0, 0, [], .int 0),
  (8, .bipush 100, 0, 0, [], .int 100),
  (10, .invokevirtual 124, 45, 0, [], .null),
  (13, .iconst (-1), 0, 0, [], .int (-1)),
  (14, .istore_n 1, 1, 0, [], .null),
  (15, .iconst 0, 0, 0, [], .int 0),
  (16, .istore_n 2, 2, 0, [], .null),
  (17, .iload_n 2, 2, 0, [], .null),
  (18, .aload_n 0, 0, 0, [], .null),
  (19, .getfield 36, 5, 0, [], .null),
  (22, .getfield 42, 8, 0, [], .null),
  (25, .getfield 103, 3, 1, [], .null),
  (28, .if_icmp .ge 51, 41, 0, [], .null),
  (31, .aload_n 0, 0, 0, [], .null),
  (32, .getfield 21, 5, 3, [], .null),
  (35, .getfield 106, 4, 0, [], .null),
  (38, .aload_n 0, 0, 0, [], .null),
  (39, .getfield 36, 5, 0, [], .null),
  (42, .getfield 75, 8, 2, [], .null),
  (45, .getfield 106, 4, 0, [], .null),
  (48, .iconst (-1), 0, 0, [], .int (-1)),
  (49, .ixor, 0, 0, [], .null),
  (50, .iand, 0, 0, [], .null),
  (51, .iload_n 2, 2, 0, [], .null),
  (52, .invokestatic 117, 120, 3, [], .null),
  (55, .iconst 1, 0, 0, [], .int 1),
  (56, .if_icmp .ne 17, 39, 0, [], .null),
  (59, .iload_n 1, 1, 0, [], .null),
  (60, .aload_n 0, 0, 0, [], .null),
  (61, .getfield 21, 5, 3, [], .null),
  (64, .getfield 185, 4, 1, [], .null),
  (67, .iload_n 2, 2, 0, [], .null),
  (68, .iaload, 0, 0, [], .null),
  (69, .invokestatic 176, 1002, 0, [], .null),
  (72, .istore_n 1, 1, 0, [], .null),
  (73, .iinc 2 1, 2, 0, [], .int 1),
  (76, .goto (-59), 11, 0, [], .null),
  (79, .iload_n 1, 1, 0, [], .null),
  (80, .ireturn, 0, 0, [], .null)]
def xm_m55 : xm_M := (6, ⟨"StairNews$Outlook", "lastHearing", "()I"⟩, prog_8_method_15_code, 3, (Option.some Jvm.ClassFile.FieldType.int), 0, 0, 0, xm_c55)
def xm_c56 : List xm_E := [(0, .aload_n 0, 0, 0, [], .null),
  (1, .getfield 36, 5, 0, [], .null),
  (4, .getfield 42, 8, 0, [], .null),
  (7, .getfield 103, 3, 1, [], .null),
  (10, .istore_n 3, 3, 0, [], .null),
  (11, .aload_n 0, 0, 0, [], .null),
  (12, .getfield 36, 5, 0, [], .null),
  (15, .getfield 42, 8, 0, [], .null),
  (18, .getfield 179, 3, 0, [], .null),
  (21, .istore 4, 4, 0, [], .null),
  (23, .iload_n 3, 3, 0, [], .null),
  (24, .ifCond .le 8, 14, 0, [], .null),
  (27, .iload 4, 4, 0, [], .null),
  (29, .ifCond .gt 4, 15, 0, [], .null),
  (32, .return_, 0, 0, [], .null),
  (33, .aload_n 0, 0, 0, [], .null),
  (34, .getfield 36, 5, 0, [], .null),
  (37, .getfield 188, 8, 7, [], .null),
  (40, .i2l, 0, 0, [], .null),
  (41, .lstore 5, 5, 0, [], .null),
  (43, .bipush 100, 0, 0, [], .int 100),
  (45, .istore 7, 7, 0, [], .null),
  (47, .iconst 0, 0, 0, [], .int 0),
  (48, .istore 8, 8, 0, [], .null),
  (50, .iload 8, 8, 0, [], .null),
  (52, .iload_n 1, 1, 0, [], .null),
  (53, .if_icmp .ge 114, 83, 0, [], .null),
  (56, .lload 5, 5, 0, [], .null),
  (58, .invokestatic 191, 57, 1, [], .null),
  (61, .lstore 5, 5, 0, [], .null),
  (63, .lload 5, 5, 0, [], .null),
  (65, .ldc2_w 195, 0, 0, [], .long 65536),
  (68, .ldiv, 0, 0, [], .null),
  (69, .iload_n 3, 3, 0, [], .null),
  (70, .i2l, 0, 0, [], .null),
  (71, .lrem, 0, 0, [], .null),
  (72, .l2i, 0, 0, [], .null),
  (73, .istore 9, 9, 0, [], .null),
  (75, .lload 5, 5, 0, [], .null),
  (77, .invokestatic 191, 57, 1, [], .null),
  (80, .lstore 5, 5, 0, [], .null),
  (82, .lload 5, 5, 0, [], .null),
  (84, .ldc2_w 195, 0, 0, [], .long 65536),
  (87, .ldiv, 0, 0, [], .null),
  (88, .iload 4, 4, 0, [], .null),
  (90, .i2l, 0, 0, [], .null),
  (91, .lrem, 0, 0, [], .null),
  (92, .l2i, 0, 0, [], .null),
  (93, .istore 10, 10, 0, [], .null),
  (95, .aload_n 0, 0, 0, [], .null),
  (96, .getfield 12, 5, 2, [], .null),
  (99, .iload 9, 9, 0, [], .null),
  (101, .invokevirtual 197, 4, 0, [], .null),
  (104, .ifCond .eq 29, 66, 0, [], .null),
  (107, .aload_n 0, 0, 0, [], .null),
  (108, .getfield 12, 5, 2, [], .null),
  (111, .getfield 201, 0, 2, [], .null),
  (114, .iload 9, 9, 0, [], .null),
  (116, .iaload, 0, 0, [], .null),
  (117, .iload 10, 10, 0, [], .null),
  (119, .if_icmp .eq 14, 66, 0, [], .null),
  (122, .aload_n 0, 0, 0, [], .null),
  (123, .getfield 12, 5, 2, [], .null),
  (126, .iload 9, 9, 0, [], .null),
  (128, .iload 10, 10, 0, [], .null),
  (130, .invokevirtual 204, 5, 0, [], .null),
  (133, .iload_n 2, 2, 0, [], .null),
  (134, .iload 7, 7, 0, [], .null),
  (136, .invokestatic 97, 1002, 0, [], .null),
  (139, .istore 11, 11, 0, [], .null),
  (141, .aload_n 0, 0, 0, [], .null),
  (142, .iload 11, 11, 0, [], .null),
  (144, .invokevirtual 113, 44, 0, [], .null),
  (147, .aload_n 0, 0, 0, [], .null),
  (148, .iconst 0, 0, 0, [], .int 0),
  (149, .iload 11, 11, 0, [], .null),
  (151, .invokevirtual 124, 45, 0, [], .null),
  (154, .iload 7, 7, 0, [], .null),
  (156, .iload 11, 11, 0, [], .null),
  (158, .isub, 0, 0, [], .null),
  (159, .istore 7, 7, 0, [], .null),
  (161, .iinc 8 1, 8, 0, [], .int 1),
  (164, .goto (-114), 24, 0, [], .null),
  (167, .return_, 0, 0, [], .null)]
def xm_m56 : xm_M := (6, ⟨"StairNews$Outlook", "spendEvenings", "(II)V"⟩, prog_8_method_16_code, 12, (Option.none : Option Jvm.ClassFile.FieldType), 2, 0, 0, xm_c56)
def xm_c57 : List xm_E := [(0, .lload_n 0, 0, 0, [], .null),
  (1, .ldc2_w 207, 0, 0, [], .long 1103515245),
  (4, .lmul, 0, 0, [], .null),
  (5, .ldc2_w 209, 0, 0, [], .long 12345),
  (8, .ladd, 0, 0, [], .null),
  (9, .ldc2_w 211, 0, 0, [], .long 2147483648),
  (12, .lrem, 0, 0, [], .null),
  (13, .lreturn, 0, 0, [], .null)]
def xm_m57 : xm_M := (6, ⟨"StairNews$Outlook", "nextSeed", "(J)J"⟩, prog_8_method_17_code, 2, (Option.some Jvm.ClassFile.FieldType.long), 1, 0, 0, xm_c57)
def xm_c58 : List xm_E := [(0, .aload_n 0, 0, 0, [], .null),
  (1, .invokespecial 3, 1000, 0, [], .null),
  (4, .aload_n 0, 0, 0, [], .null),
  (5, .sipush 240, 0, 0, [], .int 240),
  (8, .newarray .int, 100, 0, [], .null),
  (10, .putfield 9, 6, 0, [], .null),
  (13, .aload_n 0, 0, 0, [], .null),
  (14, .bipush 13, 0, 0, [], .int 13),
  (16, .newarray .int, 100, 0, [], .null),
  (18, .putfield 15, 6, 1, [], .null),
  (21, .aload_n 0, 0, 0, [], .null),
  (22, .bipush 12, 0, 0, [], .int 12),
  (24, .newarray .int, 100, 0, [], .null),
  (26, .putfield 18, 6, 2, [], .null),
  (29, .return_, 0, 0, [], .null)]
def xm_m58 : xm_M := (7, ⟨"StairNews$Rule", "<init>", "()V"⟩, prog_9_method_1_code, 1, (Option.none : Option Jvm.ClassFile.FieldType), 0, 3, 265, xm_c58)
def xm_c59 : List xm_E := [(0, .aload_n 0, 0, 0, [], .null),
  (1, .iconst 0, 0, 0, [], .int 0),
  (2, .putfield 21, 6, 3, [], .null),
  (5, .aload_n 0, 0, 0, [], .null),
  (6, .iconst 0, 0, 0, [], .int 0),
  (7, .putfield 25, 6, 4, [], .null),
  (10, .return_, 0, 0, [], .null)]
def xm_m59 : xm_M := (7, ⟨"StairNews$Rule", "clear", "()V"⟩, prog_9_method_2_code, 1, (Option.none : Option Jvm.ClassFile.FieldType), 0, 0, 0, xm_c59)
def xm_c60 : List xm_E := [(0, .aload_n 0, 0, 0, [], .null),
  (1, .getfield 21, 6, 3, [], .null),
  (4, .aload_n 0, 0, 0, [], .null),
  (5, .getfield 9, 6, 0, [], .null),
  (8, .arraylength, 0, 0, [], .null),
  (9, .if_icmp .ge 28, 22, 0, [], .null),
  (12, .aload_n 0, 0, 0, [], .null),
  (13, .getfield 9, 6, 0, [], .null),
  (16, .aload_n 0, 0, 0, [], .null),
  (17, .getfield 21, 6, 3, [], .null),
  (20, .iload_n 2, 2, 0, [], .null),
  (21, .bipush 16, 0, 0, [], .int 16),
  (23, .imul, 0, 0, [], .null),
  (24, .iload_n 1, 1, 0, [], .null),
  (25, .iadd, 0, 0, [], .null),
  (26, .iastore, 0, 0, [], .null),
  (27, .aload_n 0, 0, 0, [], .null),
  (28, .dup, 0, 0, [], .null),
  (29, .getfield 21, 6, 3, [], .null),
  (32, .iconst 1, 0, 0, [], .int 1),
  (33, .iadd, 0, 0, [], .null),
  (34, .putfield 21, 6, 3, [], .null),
  (37, .return_, 0, 0, [], .null)]
def xm_m60 : xm_M := (7, ⟨"StairNews$Rule", "emit", "(II)V"⟩, prog_9_method_3_code, 3, (Option.none : Option Jvm.ClassFile.FieldType), 2, 0, 0, xm_c60)
def xm_c61 : List xm_E := [(0, .aload_n 0, 0, 0, [], .null),
  (1, .getfield 25, 6, 4, [], .null),
  (4, .bipush 12, 0, 0, [], .int 12),
  (6, .if_icmp .ge 16, 11, 0, [], .null),
  (9, .aload_n 0, 0, 0, [], .null),
  (10, .getfield 18, 6, 2, [], .null),
  (13, .aload_n 0, 0, 0, [], .null),
  (14, .getfield 25, 6, 4, [], .null),
  (17, .aload_n 0, 0, 0, [], .null),
  (18, .getfield 21, 6, 3, [], .null),
  (21, .iastore, 0, 0, [], .null),
  (22, .return_, 0, 0, [], .null)]
def xm_m61 : xm_M := (7, ⟨"StairNews$Rule", "closeSum", "()V"⟩, prog_9_method_4_code, 1, (Option.none : Option Jvm.ClassFile.FieldType), 0, 0, 0, xm_c61)
def xm_c62 : List xm_E := [(0, .aload_n 0, 0, 0, [], .null),
  (1, .getfield 25, 6, 4, [], .null),
  (4, .bipush 12, 0, 0, [], .int 12),
  (6, .if_icmp .ge 26, 17, 0, [], .null),
  (9, .aload_n 0, 0, 0, [], .null),
  (10, .dup, 0, 0, [], .null),
  (11, .getfield 25, 6, 4, [], .null),
  (14, .iconst 1, 0, 0, [], .int 1),
  (15, .iadd, 0, 0, [], .null),
  (16, .putfield 25, 6, 4, [], .null),
  (19, .aload_n 0, 0, 0, [], .null),
  (20, .getfield 15, 6, 1, [], .null),
  (23, .aload_n 0, 0, 0, [], .null),
  (24, .getfield 25, 6, 4, [], .null),
  (27, .aload_n 0, 0, 0, [], .null),
  (28, .getfield 21, 6, 3, [], .null),
  (31, .iastore, 0, 0, [], .null),
  (32, .return_, 0, 0, [], .null)]
def xm_m62 : xm_M := (7, ⟨"StairNews$Rule", "closeClause", "()V"⟩, prog_9_method_5_code, 1, (Option.none : Option Jvm.ClassFile.FieldType), 0, 0, 0, xm_c62)
def xm_c63 : List xm_E := [(0, .iconst 0, 0, 0, [], .int 0),
  (1, .istore_n 3, 3, 0, [], .null),
  (2, .iload_n 3, 3, 0, [], .null),
  (3, .aload_n 0, 0, 0, [], .null),
  (4, .getfield 25, 6, 4, [], .null),
  (7, .if_icmp .ge 76, 52, 0, [], .null),
  (10, .iload_n 3, 3, 0, [], .null),
  (11, .bipush 12, 0, 0, [], .int 12),
  (13, .if_icmp .ge 70, 52, 0, [], .null),
  (16, .aload_n 0, 0, 0, [], .null),
  (17, .getfield 18, 6, 2, [], .null),
  (20, .iload_n 3, 3, 0, [], .null),
  (21, .iaload, 0, 0, [], .null),
  (22, .aload_n 0, 0, 0, [], .null),
  (23, .getfield 15, 6, 1, [], .null),
  (26, .iload_n 3, 3, 0, [], .null),
  (27, .iconst 1, 0, 0, [], .int 1),
  (28, .iadd, 0, 0, [], .null),
  (29, .iaload, 0, 0, [], .null),
  (30, .if_icmp .eq 28, 37, 0, [], .null),
  (33, .aload_n 0, 0, 0, [], .null),
  (34, .aload_n 0, 0, 0, [], .null),
  (35, .getfield 18, 6, 2, [], .null),
  (38, .iload_n 3, 3, 0, [], .null),
  (39, .iaload, 0, 0, [], .null),
  (40, .aload_n 0, 0, 0, [], .null),
  (41, .getfield 15, 6, 1, [], .null),
  (44, .iload_n 3, 3, 0, [], .null),
  (45, .iconst 1, 0, 0, [], .int 1),
  (46, .iadd, 0, 0, [], .null),
  (47, .iaload, 0, 0, [], .null),
  (48, .aload_n 1, 1, 0, [], .null),
  (49, .aload_n 2, 2, 0, [], .null),
  (50, .invokevirtual 28, 64, 0, [], .null),
  (53, .lconst 0, 0, 0, [], .long 0),
  (54, .lcmp, 0, 0, [], .null),
  (55, .ifCond .eq 22, 50, 0, [], .null),
  (58, .aload_n 0, 0, 0, [], .null),
  (59, .aload_n 0, 0, 0, [], .null),
  (60, .getfield 15, 6, 1, [], .null),
  (63, .iload_n 3, 3, 0, [], .null),
  (64, .iaload, 0, 0, [], .null),
  (65, .aload_n 0, 0, 0, [], .null),
  (66, .getfield 18, 6, 2, [], .null),
  (69, .iload_n 3, 3, 0, [], .null),
  (70, .iaload, 0, 0, [], .null),
  (71, .aload_n 1, 1, 0, [], .null),
  (72, .aload_n 2, 2, 0, [], .null),
  (73, .invokevirtual 28, 64, 0, [], .null),
  (76, .lreturn, 0, 0, [], .null),
  (77, .iinc 3 1, 3, 0, [], .int 1),
  (80, .goto (-78), 2, 0, [], .null),
  (83, .lconst 0, 0, 0, [], .long 0),
  (84, .lreturn, 0, 0, [], .null)]
def xm_m63 : xm_M := (7, ⟨"StairNews$Rule", "sum", "([J[J)J"⟩, prog_9_method_6_code, 4, (Option.some Jvm.ClassFile.FieldType.long), 2, 0, 0, xm_c63)
def xm_c64 : List xm_E := [(0, .iconst 0, 0, 0, [], .int 0),
  (1, .istore 5, 5, 0, [], .null),
  (3, .iload_n 1, 1, 0, [], .null),
  (4, .istore 6, 6, 0, [], .null),
  (6, .iload 6, 6, 0, [], .null),
  (8, .iload_n 2, 2, 0, [], .null),
  (9, .if_icmp .ge 456, 230, 0, [], .null),
  (12, .iload 6, 6, 0, [], .null),
  (14, .aload_n 0, 0, 0, [], .null),
  (15, .getfield 9, 6, 0, [], .null),
  (18, .arraylength, 0, 0, [], .null),
  (19, .if_icmp .ge 446, 230, 0, [], .null),
  (22, .aload_n 0, 0, 0, [], .null),
  (23, .getfield 9, 6, 0, [], .null),
  (26, .iload 6, 6, 0, [], .null),
  (28, .iaload, 0, 0, [], .null),
  (29, .bipush 15, 0, 0, [], .int 15),
  (31, .iand, 0, 0, [], .null),
  (32, .istore 7, 7, 0, [], .null),
  (34, .aload_n 0, 0, 0, [], .null),
  (35, .getfield 9, 6, 0, [], .null),
  (38, .iload 6, 6, 0, [], .null),
  (40, .iaload, 0, 0, [], .null),
  (41, .iconst 4, 0, 0, [], .int 4),
  (42, .ishr, 0, 0, [], .null),
  (43, .istore 8, 8, 0, [], .null),
  (45, .iload 7, 7, 0, [], .null),
  (47, .ifCond .eq 9, 31, 0, [], .null),
  (50, .iload 7, 7, 0, [], .null),
  (52, .iconst 1, 0, 0, [], .int 1),
  (53, .if_icmp .ne 49, 54, 0, [], .null),
  (56, .iload 5, 5, 0, [], .null),
  (58, .aload 4, 4, 0, [], .null),
  (60, .arraylength, 0, 0, [], .null),
  (61, .if_icmp .ge 398, 228, 0, [], .null),
  (64, .iload 7, 7, 0, [], .null),
  (66, .ifCond .eq 10, 41, 0, [], .null),
  (69, .iload 8, 8, 0, [], .null),
  (71, .aload_n 3, 3, 0, [], .null),
  (72, .arraylength, 0, 0, [], .null),
  (73, .if_icmp .ge 386, 228, 0, [], .null),
  (76, .aload 4, 4, 0, [], .null),
  (78, .iload 5, 5, 0, [], .null),
  (80, .iload 7, 7, 0, [], .null),
  (82, .ifCond .ne 9, 48, 0, [], .null),
  (85, .iload 8, 8, 0, [], .null),
  (87, .i2l, 0, 0, [], .null),
  (88, .goto 7, 51, 0, [], .null),
  (91, .aload_n 3, 3, 0, [], .null),
  (92, .iload 8, 8, 0, [], .null),
  (94, .laload, 0, 0, [], .null),
  (95, .lastore, 0, 0, [], .null),
  (96, .iinc 5 1, 5, 0, [], .int 1),
  (99, .goto 360, 228, 0, [], .null),
  (102, .iload 7, 7, 0, [], .null),
  (104, .bipush 14, 0, 0, [], .int 14),
  (106, .if_icmp .ne 28, 73, 0, [], .null),
  (109, .iload 5, 5, 0, [], .null),
  (111, .iconst 1, 0, 0, [], .int 1),
  (112, .if_icmp .lt 347, 228, 0, [], .null),
  (115, .aload 4, 4, 0, [], .null),
  (117, .iload 5, 5, 0, [], .null),
  (119, .iconst 1, 0, 0, [], .int 1),
  (120, .isub, 0, 0, [], .null),
  (121, .lconst 1, 0, 0, [], .long 1),
  (122, .aload 4, 4, 0, [], .null),
  (124, .iload 5, 5, 0, [], .null),
  (126, .iconst 1, 0, 0, [], .int 1),
  (127, .isub, 0, 0, [], .null),
  (128, .laload, 0, 0, [], .null),
  (129, .lsub, 0, 0, [], .null),
  (130, .lastore, 0, 0, [], .null),
  (131, .goto 328, 228, 0, [], .null),
  (134, .iload 5, 5, 0, [], .null),
  (136, .iconst 2, 0, 0, [], .int 2),
  (137, .if_icmp .lt 322, 228, 0, [], .null),
  (140, .iinc 5 (-1), 5, 0, [], .int (-1)),
  (143, .aload 4, 4, 0, [], .null),
  (145, .iload 5, 5, 0, [], .null),
  (147, .iconst 1, 0, 0, [], .int 1),
  (148, .isub, 0, 0, [], .null),
  (149, .laload, 0, 0, [], .null),
  (150, .lstore 9, 9, 0, [], .null),
  (152, .aload 4, 4, 0, [], .null),
  (154, .iload 5, 5, 0, [], .null),
  (156, .laload, 0, 0, [], .null),
  (157, .lstore 11, 11, 0, [], .null),
  (159, .iload 7, 7, 0, [], .null),
  (161, .tableswitch 286 2 12 #[59, 74, 89, 104, 130, 156, 179, 202, 225, 248, 271], 220, 0, [89, 98, 107, 116, 131, 146, 159, 172, 185, 198, 211], .null),
  (220, .aload 4, 4, 0, [], .null),
  (222, .iload 5, 5, 0, [], .null),
  (224, .iconst 1, 0, 0, [], .int 1),
  (225, .isub, 0, 0, [], .null),
  (226, .lload 9, 9, 0, [], .null),
  (228, .lload 11, 11, 0, [], .null),
  (230, .ladd, 0, 0, [], .null),
  (231, .lastore, 0, 0, [], .null),
  (232, .goto 227, 228, 0, [], .null),
  (235, .aload 4, 4, 0, [], .null),
  (237, .iload 5, 5, 0, [], .null),
  (239, .iconst 1, 0, 0, [], .int 1),
  (240, .isub, 0, 0, [], .null),
  (241, .lload 9, 9, 0, [], .null),
  (243, .lload 11, 11, 0, [], .null),
  (245, .lsub, 0, 0, [], .null),
  (246, .lastore, 0, 0, [], .null),
  (247, .goto 212, 228, 0, [], .null),
  (250, .aload 4, 4, 0, [], .null),
  (252, .iload 5, 5, 0, [], .null),
  (254, .iconst 1, 0, 0, [], .int 1),
  (255, .isub, 0, 0, [], .null),
  (256, .lload 9, 9, 0, [], .null),
  (258, .lload 11, 11, 0, [], .null),
  (260, .lmul, 0, 0, [], .null),
  (261, .lastore, 0, 0, [], .null),
  (262, .goto 197, 228, 0, [], .null),
  (265, .aload 4, 4, 0, [], .null),
  (267, .iload 5, 5, 0, [], .null),
  (269, .iconst 1, 0, 0, [], .int 1),
  (270, .isub, 0, 0, [], .null),
  (271, .lload 11, 11, 0, [], .null),
  (273, .lconst 0, 0, 0, [], .long 0),
  (274, .lcmp, 0, 0, [], .null),
  (275, .ifCond .ne 7, 126, 0, [], .null),
  (278, .lconst 0, 0, 0, [], .long 0),
  (279, .goto 8, 129, 0, [], .null),
  (282, .lload 9, 9, 0, [], .null),
  (284, .lload 11, 11, 0, [], .null),
  (286, .ldiv, 0, 0, [], .null),
  (287, .lastore, 0, 0, [], .null),
  (288, .goto 171, 228, 0, [], .null),
  (291, .aload 4, 4, 0, [], .null),
  (293, .iload 5, 5, 0, [], .null),
  (295, .iconst 1, 0, 0, [], .int 1),
  (296, .isub, 0, 0, [], .null),
  (297, .lload 11, 11, 0, [], .null),
  (299, .lconst 0, 0, 0, [], .long 0),
  (300, .lcmp, 0, 0, [], .null),
  (301, .ifCond .ne 7, 141, 0, [], .null),
  (304, .lconst 0, 0, 0, [], .long 0),
  (305, .goto 8, 144, 0, [], .null),
  (308, .lload 9, 9, 0, [], .null),
  (310, .lload 11, 11, 0, [], .null),
  (312, .lrem, 0, 0, [], .null),
  (313, .lastore, 0, 0, [], .null),
  (314, .goto 145, 228, 0, [], .null),
  (317, .aload 4, 4, 0, [], .null),
  (319, .iload 5, 5, 0, [], .null),
  (321, .iconst 1, 0, 0, [], .int 1),
  (322, .isub, 0, 0, [], .null),
  (323, .lload 9, 9, 0, [], .null),
  (325, .lload 11, 11, 0, [], .null),
  (327, .lcmp, 0, 0, [], .null),
  (328, .ifCond .ge 7, 156, 0, [], .null),
  (331, .lconst 1, 0, 0, [], .long 1),
  (332, .goto 4, 157, 0, [], .null),
  (335, .lconst 0, 0, 0, [], .long 0),
  (336, .lastore, 0, 0, [], .null),
  (337, .goto 122, 228, 0, [], .null),
  (340, .aload 4, 4, 0, [], .null),
  (342, .iload 5, 5, 0, [], .null),
  (344, .iconst 1, 0, 0, [], .int 1),
  (345, .isub, 0, 0, [], .null),
  (346, .lload 9, 9, 0, [], .null),
  (348, .lload 11, 11, 0, [], .null),
  (350, .lcmp, 0, 0, [], .null),
  (351, .ifCond .gt 7, 169, 0, [], .null),
  (354, .lconst 1, 0, 0, [], .long 1),
  (355, .goto 4, 170, 0, [], .null),
  (358, .lconst 0, 0, 0, [], .long 0),
  (359, .lastore, 0, 0, [], .null),
  (360, .goto 99, 228, 0, [], .null),
  (363, .aload 4, 4, 0, [], .null),
  (365, .iload 5, 5, 0, [], .null),
  (367, .iconst 1, 0, 0, [], .int 1),
  (368, .isub, 0, 0, [], .null),
  (369, .lload 9, 9, 0, [], .null),
  (371, .lload 11, 11, 0, [], .null),
  (373, .lcmp, 0, 0, [], .null),
  (374, .ifCond .ne 7, 182, 0, [], .null),
  (377, .lconst 1, 0, 0, [], .long 1),
  (378, .goto 4, 183, 0, [], .null),
  (381, .lconst 0, 0, 0, [], .long 0),
  (382, .lastore, 0, 0, [], .null),
  (383, .goto 76, 228, 0, [], .null),
  (386, .aload 4, 4, 0, [], .null),
  (388, .iload 5, 5, 0, [], .null),
  (390, .iconst 1, 0, 0, [], .int 1),
  (391, .isub, 0, 0, [], .null),
  (392, .lload 9, 9, 0, [], .null),
  (394, .lload 11, 11, 0, [], .null),
  (396, .lcmp, 0, 0, [], .null),
  (397, .ifCond .lt 7, 195, 0, [], .null),
  (400, .lconst 1, 0, 0, [], .long 1),
  (401, .goto 4, 196, 0, [], .null),
  (404, .lconst 0, 0, 0, [], .long 0),
  (405, .lastore, 0, 0, [], .null),
  (406, .goto 53, 228, 0, [], .null),
  (409, .aload 4, 4, 0, [], .null),
  (411, .iload 5, 5, 0, [], .null),
  (413, .iconst 1, 0, 0, [], .int 1),
  (414, .isub, 0, 0, [], .null),
  (415, .lload 9, 9, 0, [], .null),
  (417, .lload 11, 11, 0, [], .null),
  (419, .lcmp, 0, 0, [], .null),
  (420, .ifCond .le 7, 208, 0, [], .null),
  (423, .lconst 1, 0, 0, [], .long 1),
  (424, .goto 4, 209, 0, [], .null),
  (427, .lconst 0, 0, 0, [], .long 0),
  (428, .lastore, 0, 0, [], .null),
  (429, .goto 30, 228, 0, [], .null),
  (432, .aload 4, 4, 0, [], .null),
  (434, .iload 5, 5, 0, [], .null),
  (436, .iconst 1, 0, 0, [], .int 1),
  (437, .isub, 0, 0, [], .null),
  (438, .lload 9, 9, 0, [], .null),
  (440, .lload 11, 11, 0, [], .null),
  (442, .land, 0, 0, [], .null),
  (443, .lastore, 0, 0, [], .null),
  (444, .goto 15, 228, 0, [], .null),
  (447, .aload 4, 4, 0, [], .null),
  (449, .iload 5, 5, 0, [], .null),
  (451, .iconst 1, 0, 0, [], .int 1),
  (452, .isub, 0, 0, [], .null),
  (453, .lload 9, 9, 0, [], .null),
  (455, .lload 11, 11, 0, [], .null),
  (457, .lor, 0, 0, [], .null),
  (458, .lastore, 0, 0, [], .null),
  (459, .iinc 6 1, 6, 0, [], .int 1),
  (462, .goto (-456), 4, 0, [], .null),
  (465, .iload 5, 5, 0, [], .null),
  (467, .ifCond .le 10, 236, 0, [], .null),
  (470, .aload 4, 4, 0, [], .null),
  (472, .iconst 0, 0, 0, [], .int 0),
  (473, .laload, 0, 0, [], .null),
  (474, .goto 4, 237, 0, [], .null),
  (477, .lconst 0, 0, 0, [], .long 0),
  (478, .lreturn, 0, 0, [], .null)]
def xm_m64 : xm_M := (7, ⟨"StairNews$Rule", "compute", "(II[J[J)J"⟩, prog_9_method_7_code, 13, (Option.some Jvm.ClassFile.FieldType.long), 4, 0, 0, xm_c64)
def xm_c65 : List xm_E := [(0, .aload_n 0, 0, 0, [], .null),
  (1, .invokespecial 3, 1000, 0, [], .null),
  (4, .aload_n 0, 0, 0, [], .null),
  (5, .aload_n 1, 1, 0, [], .null),
  (6, .putfield 9, 7, 0, [], .null),
  (9, .return_, 0, 0, [], .null)]
def xm_m65 : xm_M := (8, ⟨"StairNews$RuleReader", "<init>", "(LStairNews$Tape;)V"⟩, prog_10_method_1_code, 2, (Option.none : Option Jvm.ClassFile.FieldType), 1, 0, 0, xm_c65)
def xm_c66 : List xm_E := [(0, .aload_n 0, 0, 0, [], .null),
  (1, .getfield 9, 7, 0, [], .null),
  (4, .invokevirtual 15, 80, 0, [], .null),
  (7, .aload_n 1, 1, 0, [], .null),
  (8, .invokevirtual 20, 59, 0, [], .null),
  (11, .aload_n 0, 0, 0, [], .null),
  (12, .aload_n 1, 1, 0, [], .null),
  (13, .putfield 25, 7, 1, [], .null),
  (16, .aload_n 0, 0, 0, [], .null),
  (17, .iconst 0, 0, 0, [], .int 0),
  (18, .putfield 29, 7, 2, [], .null),
  (21, .iconst 1, 0, 0, [], .int 1),
  (22, .istore_n 2, 2, 0, [], .null),
  (23, .iconst 0, 0, 0, [], .int 0),
  (24, .istore_n 3, 3, 0, [], .null),
  (25, .iload_n 2, 2, 0, [], .null),
  (26, .ifCond .eq 111, 67, 0, [], .null),
  (29, .iload_n 3, 3, 0, [], .null),
  (30, .bipush 12, 0, 0, [], .int 12),
  (32, .if_icmp .gt 105, 67, 0, [], .null),
  (35, .aload_n 0, 0, 0, [], .null),
  (36, .getfield 9, 7, 0, [], .null),
  (39, .ldc 33, 0, 0, [], .ref 2),
  (41, .invokevirtual 35, 83, 0, [], .null),
  (44, .iconst (-1), 0, 0, [], .int (-1)),
  (45, .if_icmp .ne 14, 31, 0, [], .null),
  (48, .aload_n 0, 0, 0, [], .null),
  (49, .getfield 9, 7, 0, [], .null),
  (52, .iconst 0, 0, 0, [], .int 0),
  (53, .invokevirtual 39, 81, 0, [], .null),
  (56, .goto 17, 38, 0, [], .null),
  (59, .iload_n 3, 3, 0, [], .null),
  (60, .bipush 12, 0, 0, [], .int 12),
  (62, .if_icmp .lt 11, 38, 0, [], .null),
  (65, .aload_n 0, 0, 0, [], .null),
  (66, .getfield 9, 7, 0, [], .null),
  (69, .iconst 4, 0, 0, [], .int 4),
  (70, .invokevirtual 39, 81, 0, [], .null),
  (73, .aload_n 0, 0, 0, [], .null),
  (74, .getfield 9, 7, 0, [], .null),
  (77, .invokevirtual 43, 82, 0, [], .null),
  (80, .aload_n 0, 0, 0, [], .null),
  (81, .invokevirtual 46, 71, 0, [], .null),
  (84, .aload_n 0, 0, 0, [], .null),
  (85, .getfield 25, 7, 1, [], .null),
  (88, .invokevirtual 49, 61, 0, [], .null),
  (91, .aload_n 0, 0, 0, [], .null),
  (92, .getfield 9, 7, 0, [], .null),
  (95, .ldc 52, 0, 0, [], .ref 4),
  (97, .invokevirtual 35, 83, 0, [], .null),
  (100, .iconst (-1), 0, 0, [], .int (-1)),
  (101, .if_icmp .eq 15, 58, 0, [], .null),
  (104, .aload_n 0, 0, 0, [], .null),
  (105, .getfield 9, 7, 0, [], .null),
  (108, .invokevirtual 43, 82, 0, [], .null),
  (111, .aload_n 0, 0, 0, [], .null),
  (112, .iconst 0, 0, 0, [], .int 0),
  (113, .invokevirtual 54, 67, 0, [], .null),
  (116, .aload_n 0, 0, 0, [], .null),
  (117, .getfield 25, 7, 1, [], .null),
  (120, .invokevirtual 57, 62, 0, [], .null),
  (123, .aload_n 0, 0, 0, [], .null),
  (124, .getfield 9, 7, 0, [], .null),
  (127, .invokevirtual 60, 86, 0, [], .null),
  (130, .istore_n 2, 2, 0, [], .null),
  (131, .iinc 3 1, 3, 0, [], .int 1),
  (134, .goto (-109), 15, 0, [], .null),
  (137, .aload_n 0, 0, 0, [], .null),
  (138, .getfield 9, 7, 0, [], .null),
  (141, .getfield 64, 9, 5, [], .null),
  (144, .ireturn, 0, 0, [], .null)]
def xm_m66 : xm_M := (8, ⟨"StairNews$RuleReader", "read", "(LStairNews$Rule;)I"⟩, prog_10_method_2_code, 4, (Option.some Jvm.ClassFile.FieldType.int), 1, 0, 0, xm_c66)
def xm_c67 : List xm_E := [(0, .aload_n 0, 0, 0, [], .null),
  (1, .iload_n 1, 1, 0, [], .null),
  (2, .invokevirtual 67, 68, 0, [], .null),
  (5, .iconst 0, 0, 0, [], .int 0),
  (6, .istore_n 2, 2, 0, [], .null),
  (7, .aload_n 0, 0, 0, [], .null),
  (8, .getfield 9, 7, 0, [], .null),
  (11, .ldc 70, 0, 0, [], .ref 6),
  (13, .invokevirtual 35, 83, 0, [], .null),
  (16, .istore_n 3, 3, 0, [], .null),
  (17, .iconst 0, 0, 0, [], .int 0),
  (18, .istore 4, 4, 0, [], .null),
  (20, .iload 4, 4, 0, [], .null),
  (22, .sipush 400, 0, 0, [], .int 400),
  (25, .if_icmp .ge 82, 57, 0, [], .null),
  (28, .iload_n 3, 3, 0, [], .null),
  (29, .iconst (-1), 0, 0, [], .int (-1)),
  (30, .if_icmp .eq 77, 57, 0, [], .null),
  (33, .aload_n 0, 0, 0, [], .null),
  (34, .getfield 9, 7, 0, [], .null),
  (37, .invokevirtual 43, 82, 0, [], .null),
  (40, .iload_n 3, 3, 0, [], .null),
  (41, .iconst 1, 0, 0, [], .int 1),
  (42, .if_icmp .ne 17, 31, 0, [], .null),
  (45, .iload_n 2, 2, 0, [], .null),
  (46, .ifCond .eq 13, 31, 0, [], .null),
  (49, .aload_n 0, 0, 0, [], .null),
  (50, .getfield 25, 7, 1, [], .null),
  (53, .bipush 13, 0, 0, [], .int 13),
  (55, .iconst 0, 0, 0, [], .int 0),
  (56, .invokevirtual 72, 60, 0, [], .null),
  (59, .aload_n 0, 0, 0, [], .null),
  (60, .iload_n 1, 1, 0, [], .null),
  (61, .invokevirtual 67, 68, 0, [], .null),
  (64, .iload_n 3, 3, 0, [], .null),
  (65, .ifCond .ne 13, 41, 0, [], .null),
  (68, .aload_n 0, 0, 0, [], .null),
  (69, .getfield 25, 7, 1, [], .null),
  (72, .bipush 12, 0, 0, [], .int 12),
  (74, .iconst 0, 0, 0, [], .int 0),
  (75, .invokevirtual 72, 60, 0, [], .null),
  (78, .iload_n 2, 2, 0, [], .null),
  (79, .iload_n 3, 3, 0, [], .null),
  (80, .iconst 1, 0, 0, [], .int 1),
  (81, .if_icmp .ne 7, 47, 0, [], .null),
  (84, .iconst 1, 0, 0, [], .int 1),
  (85, .goto 4, 48, 0, [], .null),
  (88, .iconst 0, 0, 0, [], .int 0),
  (89, .ior, 0, 0, [], .null),
  (90, .istore_n 2, 2, 0, [], .null),
  (91, .aload_n 0, 0, 0, [], .null),
  (92, .getfield 9, 7, 0, [], .null),
  (95, .ldc 70, 0, 0, [], .ref 6),
  (97, .invokevirtual 35, 83, 0, [], .null),
  (100, .istore_n 3, 3, 0, [], .null),
  (101, .iinc 4 1, 4, 0, [], .int 1),
  (104, .goto (-84), 12, 0, [], .null),
  (107, .iload_n 2, 2, 0, [], .null),
  (108, .ifCond .eq 13, 64, 0, [], .null),
  (111, .aload_n 0, 0, 0, [], .null),
  (112, .getfield 25, 7, 1, [], .null),
  (115, .bipush 13, 0, 0, [], .int 13),
  (117, .iconst 0, 0, 0, [], .int 0),
  (118, .invokevirtual 72, 60, 0, [], .null),
  (121, .return_, 0, 0, [], .null)]
def xm_m67 : xm_M := (8, ⟨"StairNews$RuleReader", "readTest", "(I)V"⟩, prog_10_method_3_code, 5, (Option.none : Option Jvm.ClassFile.FieldType), 1, 0, 0, xm_c67)
def xm_c68 : List xm_E := [(0, .aload_n 0, 0, 0, [], .null),
  (1, .getfield 9, 7, 0, [], .null),
  (4, .ldc 76, 0, 0, [], .ref 5),
  (6, .invokevirtual 35, 83, 0, [], .null),
  (9, .iconst (-1), 0, 0, [], .int (-1)),
  (10, .if_icmp .eq 7, 8, 0, [], .null),
  (13, .iconst 1, 0, 0, [], .int 1),
  (14, .goto 4, 9, 0, [], .null),
  (17, .iconst 0, 0, 0, [], .int 0),
  (18, .istore_n 2, 2, 0, [], .null),
  (19, .iload_n 2, 2, 0, [], .null),
  (20, .ifCond .ne 22, 20, 0, [], .null),
  (23, .aload_n 0, 0, 0, [], .null),
  (24, .getfield 9, 7, 0, [], .null),
  (27, .getfield 78, 9, 2, [], .null),
  (30, .bipush 91, 0, 0, [], .int 91),
  (32, .if_icmp .eq 10, 20, 0, [], .null),
  (35, .aload_n 0, 0, 0, [], .null),
  (36, .invokevirtual 81, 69, 0, [], .null),
  (39, .goto 92, 64, 0, [], .null),
  (42, .iload_n 1, 1, 0, [], .null),
  (43, .bipush 10, 0, 0, [], .int 10),
  (45, .if_icmp .lt 14, 28, 0, [], .null),
  (48, .aload_n 0, 0, 0, [], .null),
  (49, .getfield 9, 7, 0, [], .null),
  (52, .iconst 2, 0, 0, [], .int 2),
  (53, .invokevirtual 39, 81, 0, [], .null),
  (56, .goto 75, 64, 0, [], .null),
  (59, .iload_n 2, 2, 0, [], .null),
  (60, .ifCond .eq 30, 44, 0, [], .null),
  (63, .aload_n 0, 0, 0, [], .null),
  (64, .getfield 9, 7, 0, [], .null),
  (67, .invokevirtual 43, 82, 0, [], .null),
  (70, .aload_n 0, 0, 0, [], .null),
  (71, .iload_n 1, 1, 0, [], .null),
  (72, .iconst 1, 0, 0, [], .int 1),
  (73, .iadd, 0, 0, [], .null),
  (74, .invokevirtual 67, 68, 0, [], .null),
  (77, .aload_n 0, 0, 0, [], .null),
  (78, .getfield 25, 7, 1, [], .null),
  (81, .bipush 14, 0, 0, [], .int 14),
  (83, .iconst 0, 0, 0, [], .int 0),
  (84, .invokevirtual 72, 60, 0, [], .null),
  (87, .goto 44, 64, 0, [], .null),
  (90, .aload_n 0, 0, 0, [], .null),
  (91, .getfield 9, 7, 0, [], .null),
  (94, .invokevirtual 43, 82, 0, [], .null),
  (97, .aload_n 0, 0, 0, [], .null),
  (98, .iload_n 1, 1, 0, [], .null),
  (99, .iconst 1, 0, 0, [], .int 1),
  (100, .iadd, 0, 0, [], .null),
  (101, .invokevirtual 54, 67, 0, [], .null),
  (104, .aload_n 0, 0, 0, [], .null),
  (105, .getfield 9, 7, 0, [], .null),
  (108, .getfield 78, 9, 2, [], .null),
  (111, .bipush 93, 0, 0, [], .int 93),
  (113, .if_icmp .eq 11, 61, 0, [], .null),
  (116, .aload_n 0, 0, 0, [], .null),
  (117, .getfield 9, 7, 0, [], .null),
  (120, .iconst 0, 0, 0, [], .int 0),
  (121, .invokevirtual 39, 81, 0, [], .null),
  (124, .aload_n 0, 0, 0, [], .null),
  (125, .getfield 9, 7, 0, [], .null),
  (128, .invokevirtual 43, 82, 0, [], .null),
  (131, .return_, 0, 0, [], .null)]
def xm_m68 : xm_M := (8, ⟨"StairNews$RuleReader", "readFact", "(I)V"⟩, prog_10_method_4_code, 3, (Option.none : Option Jvm.ClassFile.FieldType), 1, 0, 0, xm_c68)
def xm_c69 : List xm_E := [(0, .aload_n 0, 0, 0, [], .null),
  (1, .invokevirtual 46, 71, 0, [], .null),
  (4, .aload_n 0, 0, 0, [], .null),
  (5, .getfield 9, 7, 0, [], .null),
  (8, .getfield 78, 9, 2, [], .null),
  (11, .invokestatic 84, 70, 1, [], .null),
  (14, .istore_n 1, 1, 0, [], .null),
  (15, .iload_n 1, 1, 0, [], .null),
  (16, .iconst (-1), 0, 0, [], .int (-1)),
  (17, .if_icmp .ne 14, 15, 0, [], .null),
  (20, .aload_n 0, 0, 0, [], .null),
  (21, .getfield 9, 7, 0, [], .null),
  (24, .iconst 0, 0, 0, [], .int 0),
  (25, .invokevirtual 39, 81, 0, [], .null),
  (28, .goto 20, 23, 0, [], .null),
  (31, .aload_n 0, 0, 0, [], .null),
  (32, .getfield 29, 7, 2, [], .null),
  (35, .bipush 60, 0, 0, [], .int 60),
  (37, .if_icmp .lt 11, 23, 0, [], .null),
  (40, .aload_n 0, 0, 0, [], .null),
  (41, .getfield 9, 7, 0, [], .null),
  (44, .iconst 3, 0, 0, [], .int 3),
  (45, .invokevirtual 39, 81, 0, [], .null),
  (48, .aload_n 0, 0, 0, [], .null),
  (49, .dup, 0, 0, [], .null),
  (50, .getfield 29, 7, 2, [], .null),
  (53, .iconst 1, 0, 0, [], .int 1),
  (54, .iadd, 0, 0, [], .null),
  (55, .putfield 29, 7, 2, [], .null),
  (58, .aload_n 0, 0, 0, [], .null),
  (59, .getfield 9, 7, 0, [], .null),
  (62, .invokevirtual 43, 82, 0, [], .null),
  (65, .aload_n 0, 0, 0, [], .null),
  (66, .invokevirtual 46, 71, 0, [], .null),
  (69, .aload_n 0, 0, 0, [], .null),
  (70, .getfield 25, 7, 1, [], .null),
  (73, .iload_n 1, 1, 0, [], .null),
  (74, .iconst 0, 0, 0, [], .int 0),
  (75, .invokevirtual 72, 60, 0, [], .null),
  (78, .return_, 0, 0, [], .null)]
def xm_m69 : xm_M := (8, ⟨"StairNews$RuleReader", "readComparison", "()V"⟩, prog_10_method_5_code, 2, (Option.none : Option Jvm.ClassFile.FieldType), 0, 0, 0, xm_c69)
def xm_c70 : List xm_E := [(0, .iload_n 0, 0, 0, [], .null),
  (1, .lookupswitch 66 #[(60, 51), (61, 57), (62, 63), (256, 54), (257, 60)], 12, 0, [2, 6, 10, 4, 8], .null),
  (52, .bipush 7, 0, 0, [], .int 7),
  (54, .ireturn, 0, 0, [], .null),
  (55, .bipush 8, 0, 0, [], .int 8),
  (57, .ireturn, 0, 0, [], .null),
  (58, .bipush 9, 0, 0, [], .int 9),
  (60, .ireturn, 0, 0, [], .null),
  (61, .bipush 10, 0, 0, [], .int 10),
  (63, .ireturn, 0, 0, [], .null),
  (64, .bipush 11, 0, 0, [], .int 11),
  (66, .ireturn, 0, 0, [], .null),
  (67, .iconst (-1), 0, 0, [], .int (-1)),
  (68, .ireturn, 0, 0, [], .null)]
def xm_m70 : xm_M := (8, ⟨"StairNews$RuleReader", "comparisonOf", "(I)I"⟩, prog_10_method_6_code, 1, (Option.some Jvm.ClassFile.FieldType.int), 1, 0, 0, xm_c70)
def xm_c71 : List xm_E := [(0, .aload_n 0, 0, 0, [], .null),
  (1, .invokevirtual 88, 73, 0, [], .null),
  (4, .iconst (-1), 0, 0, [], .int (-1)),
  (5, .istore_n 1, 1, 0, [], .null),
  (6, .aload_n 0, 0, 0, [], .null),
  (7, .getfield 9, 7, 0, [], .null),
  (10, .getfield 78, 9, 2, [], .null),
  (13, .invokestatic 91, 72, 1, [], .null),
  (16, .istore_n 2, 2, 0, [], .null),
  (17, .iconst 0, 0, 0, [], .int 0),
  (18, .istore_n 3, 3, 0, [], .null),
  (19, .iload_n 3, 3, 0, [], .null),
  (20, .sipush 400, 0, 0, [], .int 400),
  (23, .if_icmp .ge 91, 59, 0, [], .null),
  (26, .iload_n 2, 2, 0, [], .null),
  (27, .iconst (-1), 0, 0, [], .int (-1)),
  (28, .if_icmp .eq 86, 59, 0, [], .null),
  (31, .iload_n 2, 2, 0, [], .null),
  (32, .iconst 2, 0, 0, [], .int 2),
  (33, .if_icmp .eq 8, 23, 0, [], .null),
  (36, .iload_n 2, 2, 0, [], .null),
  (37, .iconst 3, 0, 0, [], .int 3),
  (38, .if_icmp .ne 7, 25, 0, [], .null),
  (41, .iconst 1, 0, 0, [], .int 1),
  (42, .goto 4, 26, 0, [], .null),
  (45, .iconst 0, 0, 0, [], .int 0),
  (46, .istore 4, 4, 0, [], .null),
  (48, .aload_n 0, 0, 0, [], .null),
  (49, .getfield 9, 7, 0, [], .null),
  (52, .invokevirtual 43, 82, 0, [], .null),
  (55, .iload 4, 4, 0, [], .null),
  (57, .ifCond .eq 17, 40, 0, [], .null),
  (60, .iload_n 1, 1, 0, [], .null),
  (61, .iconst (-1), 0, 0, [], .int (-1)),
  (62, .if_icmp .eq 12, 40, 0, [], .null),
  (65, .aload_n 0, 0, 0, [], .null),
  (66, .getfield 25, 7, 1, [], .null),
  (69, .iload_n 1, 1, 0, [], .null),
  (70, .iconst 0, 0, 0, [], .int 0),
  (71, .invokevirtual 72, 60, 0, [], .null),
  (74, .aload_n 0, 0, 0, [], .null),
  (75, .invokevirtual 88, 73, 0, [], .null),
  (78, .iload 4, 4, 0, [], .null),
  (80, .ifCond .eq 8, 47, 0, [], .null),
  (83, .iload_n 2, 2, 0, [], .null),
  (84, .istore_n 1, 1, 0, [], .null),
  (85, .goto 12, 52, 0, [], .null),
  (88, .aload_n 0, 0, 0, [], .null),
  (89, .getfield 25, 7, 1, [], .null),
  (92, .iload_n 2, 2, 0, [], .null),
  (93, .iconst 0, 0, 0, [], .int 0),
  (94, .invokevirtual 72, 60, 0, [], .null),
  (97, .aload_n 0, 0, 0, [], .null),
  (98, .getfield 9, 7, 0, [], .null),
  (101, .getfield 78, 9, 2, [], .null),
  (104, .invokestatic 91, 72, 1, [], .null),
  (107, .istore_n 2, 2, 0, [], .null),
  (108, .iinc 3 1, 3, 0, [], .int 1),
  (111, .goto (-92), 11, 0, [], .null),
  (114, .iload_n 1, 1, 0, [], .null),
  (115, .iconst (-1), 0, 0, [], .int (-1)),
  (116, .if_icmp .eq 12, 67, 0, [], .null),
  (119, .aload_n 0, 0, 0, [], .null),
  (120, .getfield 25, 7, 1, [], .null),
  (123, .iload_n 1, 1, 0, [], .null),
  (124, .iconst 0, 0, 0, [], .int 0),
  (125, .invokevirtual 72, 60, 0, [], .null),
  (128, .return_, 0, 0, [], .null)]
def xm_m71 : xm_M := (8, ⟨"StairNews$RuleReader", "readSum", "()V"⟩, prog_10_method_7_code, 5, (Option.none : Option Jvm.ClassFile.FieldType), 0, 0, 0, xm_c71)
def xm_c72 : List xm_E := [(0, .iload_n 0, 0, 0, [], .null),
  (1, .tableswitch 70 37 47 #[67, 70, 70, 70, 70, 63, 59, 70, 61, 70, 65], 12, 0, [10, 12, 12, 12, 12, 6, 2, 12, 4, 12, 8], .null),
  (60, .iconst 2, 0, 0, [], .int 2),
  (61, .ireturn, 0, 0, [], .null),
  (62, .iconst 3, 0, 0, [], .int 3),
  (63, .ireturn, 0, 0, [], .null),
  (64, .iconst 4, 0, 0, [], .int 4),
  (65, .ireturn, 0, 0, [], .null),
  (66, .iconst 5, 0, 0, [], .int 5),
  (67, .ireturn, 0, 0, [], .null),
  (68, .bipush 6, 0, 0, [], .int 6),
  (70, .ireturn, 0, 0, [], .null),
  (71, .iconst (-1), 0, 0, [], .int (-1)),
  (72, .ireturn, 0, 0, [], .null)]
def xm_m72 : xm_M := (8, ⟨"StairNews$RuleReader", "arithmeticOf", "(I)I"⟩, prog_10_method_8_code, 1, (Option.some Jvm.ClassFile.FieldType.int), 1, 0, 0, xm_c72)
def xm_c73 : List xm_E := [(0, .aload_n 0, 0, 0, [], .null),
  (1, .getfield 9, 7, 0, [], .null),
  (4, .ldc 94, 0, 0, [], .ref 3),
  (6, .invokevirtual 35, 83, 0, [], .null),
  (9, .istore_n 1, 1, 0, [], .null),
  (10, .iload_n 1, 1, 0, [], .null),
  (11, .iconst (-1), 0, 0, [], .int (-1)),
  (12, .if_icmp .ne 26, 18, 0, [], .null),
  (15, .aload_n 0, 0, 0, [], .null),
  (16, .getfield 9, 7, 0, [], .null),
  (19, .getfield 78, 9, 2, [], .null),
  (22, .bipush 48, 0, 0, [], .int 48),
  (24, .if_icmp .eq 14, 18, 0, [], .null),
  (27, .aload_n 0, 0, 0, [], .null),
  (28, .getfield 9, 7, 0, [], .null),
  (31, .iconst 0, 0, 0, [], .int 0),
  (32, .invokevirtual 39, 81, 0, [], .null),
  (35, .goto 89, 58, 0, [], .null),
  (38, .aload_n 0, 0, 0, [], .null),
  (39, .getfield 9, 7, 0, [], .null),
  (42, .getfield 78, 9, 2, [], .null),
  (45, .bipush 48, 0, 0, [], .int 48),
  (47, .if_icmp .ne 25, 33, 0, [], .null),
  (50, .aload_n 0, 0, 0, [], .null),
  (51, .getfield 9, 7, 0, [], .null),
  (54, .getfield 96, 9, 4, [], .null),
  (57, .iconst 5, 0, 0, [], .int 5),
  (58, .if_icmp .le 14, 33, 0, [], .null),
  (61, .aload_n 0, 0, 0, [], .null),
  (62, .getfield 9, 7, 0, [], .null),
  (65, .iconst 1, 0, 0, [], .int 1),
  (66, .invokevirtual 39, 81, 0, [], .null),
  (69, .goto 55, 58, 0, [], .null),
  (72, .aload_n 0, 0, 0, [], .null),
  (73, .getfield 29, 7, 2, [], .null),
  (76, .bipush 60, 0, 0, [], .int 60),
  (78, .if_icmp .lt 14, 42, 0, [], .null),
  (81, .aload_n 0, 0, 0, [], .null),
  (82, .getfield 9, 7, 0, [], .null),
  (85, .iconst 3, 0, 0, [], .int 3),
  (86, .invokevirtual 39, 81, 0, [], .null),
  (89, .goto 35, 58, 0, [], .null),
  (92, .iload_n 1, 1, 0, [], .null),
  (93, .iconst (-1), 0, 0, [], .int (-1)),
  (94, .if_icmp .eq 15, 51, 0, [], .null),
  (97, .aload_n 0, 0, 0, [], .null),
  (98, .getfield 25, 7, 1, [], .null),
  (101, .iconst 1, 0, 0, [], .int 1),
  (102, .iload_n 1, 1, 0, [], .null),
  (103, .invokevirtual 72, 60, 0, [], .null),
  (106, .goto 18, 58, 0, [], .null),
  (109, .aload_n 0, 0, 0, [], .null),
  (110, .getfield 25, 7, 1, [], .null),
  (113, .iconst 0, 0, 0, [], .int 0),
  (114, .aload_n 0, 0, 0, [], .null),
  (115, .getfield 9, 7, 0, [], .null),
  (118, .invokevirtual 99, 84, 0, [], .null),
  (121, .invokevirtual 72, 60, 0, [], .null),
  (124, .aload_n 0, 0, 0, [], .null),
  (125, .dup, 0, 0, [], .null),
  (126, .getfield 29, 7, 2, [], .null),
  (129, .iconst 1, 0, 0, [], .int 1),
  (130, .iadd, 0, 0, [], .null),
  (131, .putfield 29, 7, 2, [], .null),
  (134, .aload_n 0, 0, 0, [], .null),
  (135, .getfield 9, 7, 0, [], .null),
  (138, .invokevirtual 43, 82, 0, [], .null),
  (141, .return_, 0, 0, [], .null)]
def xm_m73 : xm_M := (8, ⟨"StairNews$RuleReader", "readValue", "()V"⟩, prog_10_method_9_code, 2, (Option.none : Option Jvm.ClassFile.FieldType), 0, 0, 0, xm_c73)
def xm_c74 : List xm_E := [(0, .aload_n 0, 0, 0, [], .null),
  (1, .invokespecial 3, 1000, 0, [], .null),
  (4, .aload_n 0, 0, 0, [], .null),
  (5, .new 9, 3, 0, [], .null),
  (8, .dup, 0, 0, [], .null),
  (9, .invokespecial 11, 20, 4, [], .null),
  (12, .putfield 12, 8, 0, [], .null),
  (15, .aload_n 0, 0, 0, [], .null),
  (16, .new 18, 0, 0, [], .null),
  (19, .dup, 0, 0, [], .null),
  (20, .invokespecial 20, 1, 4, [], .null),
  (23, .putfield 21, 8, 1, [], .null),
  (26, .aload_n 0, 0, 0, [], .null),
  (27, .new 25, 4, 0, [], .null),
  (30, .dup, 0, 0, [], .null),
  (31, .invokespecial 27, 35, 2, [], .null),
  (34, .putfield 28, 8, 2, [], .null),
  (37, .aload_n 0, 0, 0, [], .null),
  (38, .bipush 10, 0, 0, [], .int 10),
  (40, .newarray .int, 100, 0, [], .null),
  (42, .putfield 32, 8, 3, [], .null),
  (45, .aload_n 0, 0, 0, [], .null),
  (46, .bipush 10, 0, 0, [], .int 10),
  (48, .newarray .int, 100, 0, [], .null),
  (50, .putfield 36, 8, 4, [], .null),
  (53, .aload_n 0, 0, 0, [], .null),
  (54, .iconst (-1), 0, 0, [], .int (-1)),
  (55, .putfield 39, 8, 6, [], .null),
  (58, .return_, 0, 0, [], .null)]
def xm_m74 : xm_M := (9, ⟨"StairNews$Scene", "<init>", "()V"⟩, prog_11_method_1_code, 1, (Option.none : Option Jvm.ClassFile.FieldType), 0, 19, 154, xm_c74)
def xm_c75 : List xm_E := [(0, .aload_n 0, 0, 0, [], .null),
  (1, .getfield 12, 8, 0, [], .null),
  (4, .aload_n 1, 1, 0, [], .null),
  (5, .invokevirtual 43, 25, 0, [], .null),
  (8, .aload_n 0, 0, 0, [], .null),
  (9, .getfield 21, 8, 1, [], .null),
  (12, .aload_n 0, 0, 0, [], .null),
  (13, .getfield 12, 8, 0, [], .null),
  (16, .invokevirtual 47, 3, 0, [], .null),
  (19, .aload_n 0, 0, 0, [], .null),
  (20, .getfield 28, 8, 2, [], .null),
  (23, .invokevirtual 50, 36, 0, [], .null),
  (26, .aload_n 0, 0, 0, [], .null),
  (27, .iconst 0, 0, 0, [], .int 0),
  (28, .putfield 53, 8, 5, [], .null),
  (31, .return_, 0, 0, [], .null)]
def xm_m75 : xm_M := (9, ⟨"StairNews$Scene", "moveInto", "(LStairNews$House;)V"⟩, prog_11_method_2_code, 2, (Option.none : Option Jvm.ClassFile.FieldType), 1, 0, 0, xm_c75)
def xm_c76 : List xm_E := [(0, .aload_n 0, 0, 0, [], .null),
  (1, .getfield 12, 8, 0, [], .null),
  (4, .aload_n 1, 1, 0, [], .null),
  (5, .getfield 12, 8, 0, [], .null),
  (8, .invokevirtual 43, 25, 0, [], .null),
  (11, .aload_n 0, 0, 0, [], .null),
  (12, .getfield 21, 8, 1, [], .null),
  (15, .aload_n 1, 1, 0, [], .null),
  (16, .getfield 21, 8, 1, [], .null),
  (19, .invokevirtual 56, 2, 0, [], .null),
  (22, .aload_n 0, 0, 0, [], .null),
  (23, .getfield 28, 8, 2, [], .null),
  (26, .aload_n 1, 1, 0, [], .null),
  (27, .getfield 28, 8, 2, [], .null),
  (30, .invokevirtual 59, 37, 0, [], .null),
  (33, .aload_n 1, 1, 0, [], .null),
  (34, .getfield 32, 8, 3, [], .null),
  (37, .iconst 0, 0, 0, [], .int 0),
  (38, .aload_n 0, 0, 0, [], .null),
  (39, .getfield 32, 8, 3, [], .null),
  (42, .iconst 0, 0, 0, [], .int 0),
  (43, .bipush 10, 0, 0, [], .int 10),
  (45, .invokestatic 62, 1001, 0, [], .null),
  (48, .aload_n 1, 1, 0, [], .null),
  (49, .getfield 36, 8, 4, [], .null),
  (52, .iconst 0, 0, 0, [], .int 0),
  (53, .aload_n 0, 0, 0, [], .null),
  (54, .getfield 36, 8, 4, [], .null),
  (57, .iconst 0, 0, 0, [], .int 0),
  (58, .bipush 10, 0, 0, [], .int 10),
  (60, .invokestatic 62, 1001, 0, [], .null),
  (63, .aload_n 0, 0, 0, [], .null),
  (64, .aload_n 1, 1, 0, [], .null),
  (65, .getfield 53, 8, 5, [], .null),
  (68, .putfield 53, 8, 5, [], .null),
  (71, .aload_n 0, 0, 0, [], .null),
  (72, .aload_n 1, 1, 0, [], .null),
  (73, .getfield 39, 8, 6, [], .null),
  (76, .putfield 39, 8, 6, [], .null),
  (79, .aload_n 0, 0, 0, [], .null),
  (80, .aload_n 1, 1, 0, [], .null),
  (81, .getfield 68, 8, 7, [], .null),
  (84, .putfield 68, 8, 7, [], .null),
  (87, .return_, 0, 0, [], .null)]
def xm_m76 : xm_M := (9, ⟨"StairNews$Scene", "copy", "(LStairNews$Scene;)V"⟩, prog_11_method_3_code, 2, (Option.none : Option Jvm.ClassFile.FieldType), 1, 0, 0, xm_c76)
def xm_c77 : List xm_E := [(0, .iconst 0, 0, 0, [], .int 0),
  (1, .istore_n 2, 2, 0, [], .null),
  (2, .iload_n 2, 2, 0, [], .null),
  (3, .aload_n 0, 0, 0, [], .null),
  (4, .getfield 53, 8, 5, [], .null),
  (7, .if_icmp .ge 30, 21, 0, [], .null),
  (10, .aload_n 1, 1, 0, [], .null),
  (11, .aload_n 0, 0, 0, [], .null),
  (12, .getfield 32, 8, 3, [], .null),
  (15, .iload_n 2, 2, 0, [], .null),
  (16, .iaload, 0, 0, [], .null),
  (17, .invokevirtual 71, 40, 0, [], .null),
  (20, .aload_n 0, 0, 0, [], .null),
  (21, .getfield 36, 8, 4, [], .null),
  (24, .iload_n 2, 2, 0, [], .null),
  (25, .iaload, 0, 0, [], .null),
  (26, .if_icmp .eq 5, 19, 0, [], .null),
  (29, .iconst 0, 0, 0, [], .int 0),
  (30, .ireturn, 0, 0, [], .null),
  (31, .iinc 2 1, 2, 0, [], .int 1),
  (34, .goto (-32), 2, 0, [], .null),
  (37, .iconst 1, 0, 0, [], .int 1),
  (38, .ireturn, 0, 0, [], .null)]
def xm_m77 : xm_M := (9, ⟨"StairNews$Scene", "isNews", "(LStairNews$Lore;)Z"⟩, prog_11_method_4_code, 3, (Option.some Jvm.ClassFile.FieldType.boolean), 1, 0, 0, xm_c77)
def xm_c78 : List xm_E := [(0, .aload_n 0, 0, 0, [], .null),
  (1, .invokespecial 3, 1000, 0, [], .null),
  (4, .aload_n 0, 0, 0, [], .null),
  (5, .sipush 400, 0, 0, [], .int 400),
  (8, .newarray .byte, 101, 0, [], .null),
  (10, .putfield 9, 9, 0, [], .null),
  (13, .return_, 0, 0, [], .null)]
def xm_m78 : xm_M := (10, ⟨"StairNews$Tape", "<init>", "()V"⟩, prog_12_method_1_code, 1, (Option.none : Option Jvm.ClassFile.FieldType), 0, 1, 400, xm_c78)
def xm_c79 : List xm_E := [(0, .bipush 24, 0, 0, [], .int 24),
  (2, .istore_n 2, 2, 0, [], .null),
  (3, .iload_n 2, 2, 0, [], .null),
  (4, .ifCond .lt 42, 25, 0, [], .null),
  (7, .aload_n 0, 0, 0, [], .null),
  (8, .getfield 15, 9, 1, [], .null),
  (11, .sipush 400, 0, 0, [], .int 400),
  (14, .if_icmp .ge 32, 25, 0, [], .null),
  (17, .aload_n 0, 0, 0, [], .null),
  (18, .getfield 9, 9, 0, [], .null),
  (21, .aload_n 0, 0, 0, [], .null),
  (22, .getfield 15, 9, 1, [], .null),
  (25, .iload_n 1, 1, 0, [], .null),
  (26, .iload_n 2, 2, 0, [], .null),
  (27, .ishr, 0, 0, [], .null),
  (28, .i2b, 0, 0, [], .null),
  (29, .bastore, 0, 0, [], .null),
  (30, .aload_n 0, 0, 0, [], .null),
  (31, .dup, 0, 0, [], .null),
  (32, .getfield 15, 9, 1, [], .null),
  (35, .iconst 1, 0, 0, [], .int 1),
  (36, .iadd, 0, 0, [], .null),
  (37, .putfield 15, 9, 1, [], .null),
  (40, .iinc 2 (-8), 2, 0, [], .int (-8)),
  (43, .goto (-40), 2, 0, [], .null),
  (46, .return_, 0, 0, [], .null)]
def xm_m79 : xm_M := (10, ⟨"StairNews$Tape", "append", "(I)V"⟩, prog_12_method_2_code, 3, (Option.none : Option Jvm.ClassFile.FieldType), 1, 0, 0, xm_c79)
def xm_c80 : List xm_E := [(0, .aload_n 0, 0, 0, [], .null),
  (1, .iconst 0, 0, 0, [], .int 0),
  (2, .putfield 19, 9, 5, [], .null),
  (5, .aload_n 0, 0, 0, [], .null),
  (6, .iconst 0, 0, 0, [], .int 0),
  (7, .putfield 22, 9, 3, [], .null),
  (10, .aload_n 0, 0, 0, [], .null),
  (11, .iconst 0, 0, 0, [], .int 0),
  (12, .putfield 25, 9, 4, [], .null),
  (15, .aload_n 0, 0, 0, [], .null),
  (16, .invokevirtual 28, 82, 0, [], .null),
  (19, .return_, 0, 0, [], .null)]
def xm_m80 : xm_M := (10, ⟨"StairNews$Tape", "rewind", "()V"⟩, prog_12_method_3_code, 1, (Option.none : Option Jvm.ClassFile.FieldType), 0, 0, 0, xm_c80)
def xm_c81 : List xm_E := [(0, .aload_n 0, 0, 0, [], .null),
  (1, .getfield 19, 9, 5, [], .null),
  (4, .ifCond .ne 18, 13, 0, [], .null),
  (7, .aload_n 0, 0, 0, [], .null),
  (8, .iconst 1, 0, 0, [], .int 1),
  (9, .bipush 8, 0, 0, [], .int 8),
  (11, .aload_n 0, 0, 0, [], .null),
  (12, .getfield 22, 9, 3, [], .null),
  (15, .imul, 0, 0, [], .null),
  (16, .iadd, 0, 0, [], .null),
  (17, .iload_n 1, 1, 0, [], .null),
  (18, .iadd, 0, 0, [], .null),
  (19, .putfield 19, 9, 5, [], .null),
  (22, .aload_n 0, 0, 0, [], .null),
  (23, .bipush (-2), 0, 0, [], .int (-2)),
  (25, .putfield 31, 9, 2, [], .null),
  (28, .aload_n 0, 0, 0, [], .null),
  (29, .iconst 0, 0, 0, [], .int 0),
  (30, .putfield 25, 9, 4, [], .null),
  (33, .return_, 0, 0, [], .null)]
def xm_m81 : xm_M := (10, ⟨"StairNews$Tape", "fail", "(I)V"⟩, prog_12_method_4_code, 2, (Option.none : Option Jvm.ClassFile.FieldType), 1, 0, 0, xm_c81)
def xm_c82 : List xm_E := [(0, .aload_n 0, 0, 0, [], .null),
  (1, .getfield 19, 9, 5, [], .null),
  (4, .ifCond .eq 4, 4, 0, [], .null),
  (7, .return_, 0, 0, [], .null),
  (8, .aload_n 0, 0, 0, [], .null),
  (9, .dup, 0, 0, [], .null),
  (10, .getfield 22, 9, 3, [], .null),
  (13, .aload_n 0, 0, 0, [], .null),
  (14, .getfield 25, 9, 4, [], .null),
  (17, .iadd, 0, 0, [], .null),
  (18, .putfield 22, 9, 3, [], .null),
  (21, .aload_n 0, 0, 0, [], .null),
  (22, .getfield 22, 9, 3, [], .null),
  (25, .aload_n 0, 0, 0, [], .null),
  (26, .getfield 15, 9, 1, [], .null),
  (29, .if_icmp .ge 30, 30, 0, [], .null),
  (32, .aload_n 0, 0, 0, [], .null),
  (33, .getfield 9, 9, 0, [], .null),
  (36, .aload_n 0, 0, 0, [], .null),
  (37, .getfield 22, 9, 3, [], .null),
  (40, .baload, 0, 0, [], .null),
  (41, .bipush 32, 0, 0, [], .int 32),
  (43, .if_icmp .ne 16, 30, 0, [], .null),
  (46, .aload_n 0, 0, 0, [], .null),
  (47, .dup, 0, 0, [], .null),
  (48, .getfield 22, 9, 3, [], .null),
  (51, .iconst 1, 0, 0, [], .int 1),
  (52, .iadd, 0, 0, [], .null),
  (53, .putfield 22, 9, 3, [], .null),
  (56, .goto (-35), 11, 0, [], .null),
  (59, .aload_n 0, 0, 0, [], .null),
  (60, .aload_n 0, 0, 0, [], .null),
  (61, .getfield 22, 9, 3, [], .null),
  (64, .aload_n 0, 0, 0, [], .null),
  (65, .getfield 15, 9, 1, [], .null),
  (68, .if_icmp .ge 7, 38, 0, [], .null),
  (71, .iconst 1, 0, 0, [], .int 1),
  (72, .goto 4, 39, 0, [], .null),
  (75, .iconst 0, 0, 0, [], .int 0),
  (76, .putfield 25, 9, 4, [], .null),
  (79, .aload_n 0, 0, 0, [], .null),
  (80, .getfield 25, 9, 4, [], .null),
  (83, .iconst 1, 0, 0, [], .int 1),
  (84, .if_icmp .ne 19, 52, 0, [], .null),
  (87, .aload_n 0, 0, 0, [], .null),
  (88, .getfield 9, 9, 0, [], .null),
  (91, .aload_n 0, 0, 0, [], .null),
  (92, .getfield 22, 9, 3, [], .null),
  (95, .baload, 0, 0, [], .null),
  (96, .sipush 255, 0, 0, [], .int 255),
  (99, .iand, 0, 0, [], .null),
  (100, .goto 4, 53, 0, [], .null),
  (103, .iconst (-1), 0, 0, [], .int (-1)),
  (104, .istore_n 1, 1, 0, [], .null),
  (105, .aload_n 0, 0, 0, [], .null),
  (106, .getfield 22, 9, 3, [], .null),
  (109, .iconst 1, 0, 0, [], .int 1),
  (110, .iadd, 0, 0, [], .null),
  (111, .aload_n 0, 0, 0, [], .null),
  (112, .getfield 15, 9, 1, [], .null),
  (115, .if_icmp .ge 17, 69, 0, [], .null),
  (118, .aload_n 0, 0, 0, [], .null),
  (119, .getfield 9, 9, 0, [], .null),
  (122, .aload_n 0, 0, 0, [], .null),
  (123, .getfield 22, 9, 3, [], .null),
  (126, .iconst 1, 0, 0, [], .int 1),
  (127, .iadd, 0, 0, [], .null),
  (128, .baload, 0, 0, [], .null),
  (129, .goto 4, 70, 0, [], .null),
  (132, .iconst (-1), 0, 0, [], .int (-1)),
  (133, .istore_n 2, 2, 0, [], .null),
  (134, .iload_n 1, 1, 0, [], .null),
  (135, .bipush 97, 0, 0, [], .int 97),
  (137, .if_icmp .lt 82, 115, 0, [], .null),
  (140, .iload_n 1, 1, 0, [], .null),
  (141, .bipush 122, 0, 0, [], .int 122),
  (143, .if_icmp .gt 76, 115, 0, [], .null),
  (146, .aload_n 0, 0, 0, [], .null),
  (147, .bipush 97, 0, 0, [], .int 97),
  (149, .putfield 31, 9, 2, [], .null),
  (152, .aload_n 0, 0, 0, [], .null),
  (153, .getfield 22, 9, 3, [], .null),
  (156, .aload_n 0, 0, 0, [], .null),
  (157, .getfield 25, 9, 4, [], .null),
  (160, .iadd, 0, 0, [], .null),
  (161, .aload_n 0, 0, 0, [], .null),
  (162, .getfield 15, 9, 1, [], .null),
  (165, .if_icmp .ge 189, 183, 0, [], .null),
  (168, .aload_n 0, 0, 0, [], .null),
  (169, .getfield 9, 9, 0, [], .null),
  (172, .aload_n 0, 0, 0, [], .null),
  (173, .getfield 22, 9, 3, [], .null),
  (176, .aload_n 0, 0, 0, [], .null),
  (177, .getfield 25, 9, 4, [], .null),
  (180, .iadd, 0, 0, [], .null),
  (181, .baload, 0, 0, [], .null),
  (182, .bipush 97, 0, 0, [], .int 97),
  (184, .if_icmp .lt 170, 183, 0, [], .null),
  (187, .aload_n 0, 0, 0, [], .null),
  (188, .getfield 9, 9, 0, [], .null),
  (191, .aload_n 0, 0, 0, [], .null),
  (192, .getfield 22, 9, 3, [], .null),
  (195, .aload_n 0, 0, 0, [], .null),
  (196, .getfield 25, 9, 4, [], .null),
  (199, .iadd, 0, 0, [], .null),
  (200, .baload, 0, 0, [], .null),
  (201, .bipush 122, 0, 0, [], .int 122),
  (203, .if_icmp .gt 151, 183, 0, [], .null),
  (206, .aload_n 0, 0, 0, [], .null),
  (207, .dup, 0, 0, [], .null),
  (208, .getfield 25, 9, 4, [], .null),
  (211, .iconst 1, 0, 0, [], .int 1),
  (212, .iadd, 0, 0, [], .null),
  (213, .putfield 25, 9, 4, [], .null),
  (216, .goto (-64), 80, 0, [], .null),
  (219, .iload_n 1, 1, 0, [], .null),
  (220, .bipush 48, 0, 0, [], .int 48),
  (222, .if_icmp .lt 82, 159, 0, [], .null),
  (225, .iload_n 1, 1, 0, [], .null),
  (226, .bipush 57, 0, 0, [], .int 57),
  (228, .if_icmp .gt 76, 159, 0, [], .null),
  (231, .aload_n 0, 0, 0, [], .null),
  (232, .bipush 48, 0, 0, [], .int 48),
  (234, .putfield 31, 9, 2, [], .null),
  (237, .aload_n 0, 0, 0, [], .null),
  (238, .getfield 22, 9, 3, [], .null),
  (241, .aload_n 0, 0, 0, [], .null),
  (242, .getfield 25, 9, 4, [], .null),
  (245, .iadd, 0, 0, [], .null),
  (246, .aload_n 0, 0, 0, [], .null),
  (247, .getfield 15, 9, 1, [], .null),
  (250, .if_icmp .ge 104, 183, 0, [], .null),
  (253, .aload_n 0, 0, 0, [], .null),
  (254, .getfield 9, 9, 0, [], .null),
  (257, .aload_n 0, 0, 0, [], .null),
  (258, .getfield 22, 9, 3, [], .null),
  (261, .aload_n 0, 0, 0, [], .null),
  (262, .getfield 25, 9, 4, [], .null),
  (265, .iadd, 0, 0, [], .null),
  (266, .baload, 0, 0, [], .null),
  (267, .bipush 48, 0, 0, [], .int 48),
  (269, .if_icmp .lt 85, 183, 0, [], .null),
  (272, .aload_n 0, 0, 0, [], .null),
  (273, .getfield 9, 9, 0, [], .null),
  (276, .aload_n 0, 0, 0, [], .null),
  (277, .getfield 22, 9, 3, [], .null),
  (280, .aload_n 0, 0, 0, [], .null),
  (281, .getfield 25, 9, 4, [], .null),
  (284, .iadd, 0, 0, [], .null),
  (285, .baload, 0, 0, [], .null),
  (286, .bipush 57, 0, 0, [], .int 57),
  (288, .if_icmp .gt 66, 183, 0, [], .null),
  (291, .aload_n 0, 0, 0, [], .null),
  (292, .dup, 0, 0, [], .null),
  (293, .getfield 25, 9, 4, [], .null),
  (296, .iconst 1, 0, 0, [], .int 1),
  (297, .iadd, 0, 0, [], .null),
  (298, .putfield 25, 9, 4, [], .null),
  (301, .goto (-64), 124, 0, [], .null),
  (304, .iload_n 2, 2, 0, [], .null),
  (305, .bipush 61, 0, 0, [], .int 61),
  (307, .if_icmp .ne 42, 180, 0, [], .null),
  (310, .iload_n 1, 1, 0, [], .null),
  (311, .bipush 60, 0, 0, [], .int 60),
  (313, .if_icmp .eq 9, 168, 0, [], .null),
  (316, .iload_n 1, 1, 0, [], .null),
  (317, .bipush 62, 0, 0, [], .int 62),
  (319, .if_icmp .ne 30, 180, 0, [], .null),
  (322, .aload_n 0, 0, 0, [], .null),
  (323, .iload_n 1, 1, 0, [], .null),
  (324, .bipush 60, 0, 0, [], .int 60),
  (326, .if_icmp .ne 9, 174, 0, [], .null),
  (329, .sipush 256, 0, 0, [], .int 256),
  (332, .goto 6, 175, 0, [], .null),
  (335, .sipush 257, 0, 0, [], .int 257),
  (338, .putfield 31, 9, 2, [], .null),
  (341, .aload_n 0, 0, 0, [], .null),
  (342, .iconst 2, 0, 0, [], .int 2),
  (343, .putfield 25, 9, 4, [], .null),
  (346, .goto 8, 183, 0, [], .null),
  (349, .aload_n 0, 0, 0, [], .null),
  (350, .iload_n 1, 1, 0, [], .null),
  (351, .putfield 31, 9, 2, [], .null),
  (354, .return_, 0, 0, [], .null)]
def xm_m82 : xm_M := (10, ⟨"StairNews$Tape", "next", "()V"⟩, prog_12_method_5_code, 3, (Option.none : Option Jvm.ClassFile.FieldType), 0, 0, 0, xm_c82)
def xm_c83 : List xm_E := [(0, .iconst 0, 0, 0, [], .int 0),
  (1, .istore_n 2, 2, 0, [], .null),
  (2, .iconst 0, 0, 0, [], .int 0),
  (3, .istore_n 3, 3, 0, [], .null),
  (4, .iconst 0, 0, 0, [], .int 0),
  (5, .istore 4, 4, 0, [], .null),
  (7, .aload_n 0, 0, 0, [], .null),
  (8, .getfield 31, 9, 2, [], .null),
  (11, .bipush 97, 0, 0, [], .int 97),
  (13, .if_icmp .ne 96, 56, 0, [], .null),
  (16, .iload 4, 4, 0, [], .null),
  (18, .aload_n 1, 1, 0, [], .null),
  (19, .invokevirtual 34, 1002, 0, [], .null),
  (22, .if_icmp .gt 87, 56, 0, [], .null),
  (25, .iload 4, 4, 0, [], .null),
  (27, .aload_n 1, 1, 0, [], .null),
  (28, .invokevirtual 34, 1002, 0, [], .null),
  (31, .if_icmp .eq 14, 23, 0, [], .null),
  (34, .aload_n 1, 1, 0, [], .null),
  (35, .iload 4, 4, 0, [], .null),
  (37, .invokevirtual 39, 1002, 0, [], .null),
  (40, .bipush 32, 0, 0, [], .int 32),
  (42, .if_icmp .ne 21, 33, 0, [], .null),
  (45, .iload_n 3, 3, 0, [], .null),
  (46, .aload_n 0, 0, 0, [], .null),
  (47, .getfield 25, 9, 4, [], .null),
  (50, .if_icmp .ne 5, 29, 0, [], .null),
  (53, .iload_n 2, 2, 0, [], .null),
  (54, .ireturn, 0, 0, [], .null),
  (55, .iinc 2 1, 2, 0, [], .int 1),
  (58, .iconst 0, 0, 0, [], .int 0),
  (59, .istore_n 3, 3, 0, [], .null),
  (60, .goto 43, 54, 0, [], .null),
  (63, .iload_n 3, 3, 0, [], .null),
  (64, .ifCond .lt 37, 52, 0, [], .null),
  (67, .iload_n 3, 3, 0, [], .null),
  (68, .aload_n 0, 0, 0, [], .null),
  (69, .getfield 25, 9, 4, [], .null),
  (72, .if_icmp .ge 29, 52, 0, [], .null),
  (75, .aload_n 1, 1, 0, [], .null),
  (76, .iload 4, 4, 0, [], .null),
  (78, .invokevirtual 39, 1002, 0, [], .null),
  (81, .aload_n 0, 0, 0, [], .null),
  (82, .getfield 9, 9, 0, [], .null),
  (85, .aload_n 0, 0, 0, [], .null),
  (86, .getfield 22, 9, 3, [], .null),
  (89, .iload_n 3, 3, 0, [], .null),
  (90, .iadd, 0, 0, [], .null),
  (91, .baload, 0, 0, [], .null),
  (92, .if_icmp .ne 9, 52, 0, [], .null),
  (95, .iinc 3 1, 3, 0, [], .int 1),
  (98, .goto 5, 54, 0, [], .null),
  (101, .iconst (-1), 0, 0, [], .int (-1)),
  (102, .istore_n 3, 3, 0, [], .null),
  (103, .iinc 4 1, 4, 0, [], .int 1),
  (106, .goto (-99), 6, 0, [], .null),
  (109, .iconst (-1), 0, 0, [], .int (-1)),
  (110, .ireturn, 0, 0, [], .null)]
def xm_m83 : xm_M := (10, ⟨"StairNews$Tape", "word", "(Ljava/lang/String;)I"⟩, prog_12_method_6_code, 5, (Option.some Jvm.ClassFile.FieldType.int), 1, 0, 0, xm_c83)
def xm_c84 : List xm_E := [(0, .iconst 0, 0, 0, [], .int 0),
  (1, .istore_n 1, 1, 0, [], .null),
  (2, .iconst 0, 0, 0, [], .int 0),
  (3, .istore_n 2, 2, 0, [], .null),
  (4, .aload_n 0, 0, 0, [], .null),
  (5, .getfield 31, 9, 2, [], .null),
  (8, .bipush 48, 0, 0, [], .int 48),
  (10, .if_icmp .ne 42, 31, 0, [], .null),
  (13, .iload_n 2, 2, 0, [], .null),
  (14, .aload_n 0, 0, 0, [], .null),
  (15, .getfield 25, 9, 4, [], .null),
  (18, .if_icmp .ge 34, 31, 0, [], .null),
  (21, .iload_n 2, 2, 0, [], .null),
  (22, .iconst 5, 0, 0, [], .int 5),
  (23, .if_icmp .ge 29, 31, 0, [], .null),
  (26, .iload_n 1, 1, 0, [], .null),
  (27, .bipush 10, 0, 0, [], .int 10),
  (29, .imul, 0, 0, [], .null),
  (30, .aload_n 0, 0, 0, [], .null),
  (31, .getfield 9, 9, 0, [], .null),
  (34, .aload_n 0, 0, 0, [], .null),
  (35, .getfield 22, 9, 3, [], .null),
  (38, .iload_n 2, 2, 0, [], .null),
  (39, .iadd, 0, 0, [], .null),
  (40, .baload, 0, 0, [], .null),
  (41, .iadd, 0, 0, [], .null),
  (42, .bipush 48, 0, 0, [], .int 48),
  (44, .isub, 0, 0, [], .null),
  (45, .istore_n 1, 1, 0, [], .null),
  (46, .iinc 2 1, 2, 0, [], .int 1),
  (49, .goto (-45), 4, 0, [], .null),
  (52, .iload_n 1, 1, 0, [], .null),
  (53, .ireturn, 0, 0, [], .null)]
def xm_m84 : xm_M := (10, ⟨"StairNews$Tape", "value", "()I"⟩, prog_12_method_7_code, 3, (Option.some Jvm.ClassFile.FieldType.int), 0, 0, 0, xm_c84)
def xm_c85 : List xm_E := [(0, .aload_n 0, 0, 0, [], .null),
  (1, .invokevirtual 43, 84, 0, [], .null),
  (4, .istore 4, 4, 0, [], .null),
  (6, .aload_n 0, 0, 0, [], .null),
  (7, .getfield 31, 9, 2, [], .null),
  (10, .bipush 48, 0, 0, [], .int 48),
  (12, .if_icmp .eq 10, 12, 0, [], .null),
  (15, .aload_n 0, 0, 0, [], .null),
  (16, .iconst 0, 0, 0, [], .int 0),
  (17, .invokevirtual 46, 81, 0, [], .null),
  (20, .iconst 0, 0, 0, [], .int 0),
  (21, .ireturn, 0, 0, [], .null),
  (22, .aload_n 0, 0, 0, [], .null),
  (23, .getfield 25, 9, 4, [], .null),
  (26, .iconst 5, 0, 0, [], .int 5),
  (27, .if_icmp .gt 21, 25, 0, [], .null),
  (30, .iload 4, 4, 0, [], .null),
  (32, .iload_n 1, 1, 0, [], .null),
  (33, .if_icmp .lt 15, 25, 0, [], .null),
  (36, .iload 4, 4, 0, [], .null),
  (38, .iload_n 2, 2, 0, [], .null),
  (39, .if_icmp .gt 9, 25, 0, [], .null),
  (42, .iload 4, 4, 0, [], .null),
  (44, .iload_n 3, 3, 0, [], .null),
  (45, .if_icmp .ne 10, 30, 0, [], .null),
  (48, .aload_n 0, 0, 0, [], .null),
  (49, .iconst 1, 0, 0, [], .int 1),
  (50, .invokevirtual 46, 81, 0, [], .null),
  (53, .iconst 0, 0, 0, [], .int 0),
  (54, .ireturn, 0, 0, [], .null),
  (55, .aload_n 0, 0, 0, [], .null),
  (56, .invokevirtual 28, 82, 0, [], .null),
  (59, .iload 4, 4, 0, [], .null),
  (61, .ireturn, 0, 0, [], .null)]
def xm_m85 : xm_M := (10, ⟨"StairNews$Tape", "number", "(III)I"⟩, prog_12_method_8_code, 5, (Option.some Jvm.ClassFile.FieldType.int), 3, 0, 0, xm_c85)
def xm_c86 : List xm_E := [(0, .aload_n 0, 0, 0, [], .null),
  (1, .getfield 31, 9, 2, [], .null),
  (4, .bipush 59, 0, 0, [], .int 59),
  (6, .if_icmp .ne 9, 8, 0, [], .null),
  (9, .aload_n 0, 0, 0, [], .null),
  (10, .invokevirtual 28, 82, 0, [], .null),
  (13, .iconst 1, 0, 0, [], .int 1),
  (14, .ireturn, 0, 0, [], .null),
  (15, .aload_n 0, 0, 0, [], .null),
  (16, .getfield 31, 9, 2, [], .null),
  (19, .iconst (-1), 0, 0, [], .int (-1)),
  (20, .if_icmp .eq 8, 15, 0, [], .null),
  (23, .aload_n 0, 0, 0, [], .null),
  (24, .iconst 0, 0, 0, [], .int 0),
  (25, .invokevirtual 46, 81, 0, [], .null),
  (28, .iconst 0, 0, 0, [], .int 0),
  (29, .ireturn, 0, 0, [], .null)]
def xm_m86 : xm_M := (10, ⟨"StairNews$Tape", "goesOn", "()Z"⟩, prog_12_method_9_code, 1, (Option.some Jvm.ClassFile.FieldType.boolean), 0, 0, 0, xm_c86)
def xm_c87 : List xm_E := [(0, .aload_n 0, 0, 0, [], .null),
  (1, .invokespecial 3, 1000, 0, [], .null),
  (4, .aload_n 0, 0, 0, [], .null),
  (5, .new 9, 9, 0, [], .null),
  (8, .dup, 0, 0, [], .null),
  (9, .invokespecial 11, 78, 4, [], .null),
  (12, .putfield 12, 10, 0, [], .null),
  (15, .aload_n 0, 0, 0, [], .null),
  (16, .new 16, 8, 0, [], .null),
  (19, .dup, 0, 0, [], .null),
  (20, .invokespecial 18, 74, 4, [], .null),
  (23, .putfield 19, 10, 1, [], .null),
  (26, .aload_n 0, 0, 0, [], .null),
  (27, .new 23, 3, 0, [], .null),
  (30, .dup, 0, 0, [], .null),
  (31, .invokespecial 25, 20, 4, [], .null),
  (34, .putfield 26, 10, 2, [], .null),
  (37, .aload_n 0, 0, 0, [], .null),
  (38, .bipush 6, 0, 0, [], .int 6),
  (40, .anewarray 30, 104, 0, [], .null),
  (43, .putfield 32, 10, 3, [], .null),
  (46, .aload_n 0, 0, 0, [], .null),
  (47, .new 36, 7, 0, [], .null),
  (50, .dup, 0, 0, [], .null),
  (51, .aload_n 0, 0, 0, [], .null),
  (52, .getfield 12, 10, 0, [], .null),
  (55, .invokespecial 38, 65, 2, [], .null),
  (58, .putfield 41, 10, 4, [], .null),
  (61, .aload_n 0, 0, 0, [], .null),
  (62, .new 45, 2, 0, [], .null),
  (65, .dup, 0, 0, [], .null),
  (66, .invokespecial 47, 16, 2, [], .null),
  (69, .putfield 48, 10, 5, [], .null),
  (72, .aload_n 0, 0, 0, [], .null),
  (73, .iconst 4, 0, 0, [], .int 4),
  (74, .anewarray 16, 107, 0, [], .null),
  (77, .putfield 52, 10, 6, [], .null),
  (80, .aload_n 0, 0, 0, [], .null),
  (81, .new 56, 5, 0, [], .null),
  (84, .dup, 0, 0, [], .null),
  (85, .aload_n 0, 0, 0, [], .null),
  (86, .getfield 19, 10, 1, [], .null),
  (89, .invokespecial 58, 41, 2, [], .null),
  (92, .putfield 61, 10, 7, [], .null),
  (95, .iconst 0, 0, 0, [], .int 0),
  (96, .istore_n 1, 1, 0, [], .null),
  (97, .iload_n 1, 1, 0, [], .null),
  (98, .aload_n 0, 0, 0, [], .null),
  (99, .getfield 32, 10, 3, [], .null),
  (102, .arraylength, 0, 0, [], .null),
  (103, .if_icmp .ge 22, 60, 0, [], .null),
  (106, .aload_n 0, 0, 0, [], .null),
  (107, .getfield 32, 10, 3, [], .null),
  (110, .iload_n 1, 1, 0, [], .null),
  (111, .new 30, 6, 0, [], .null),
  (114, .dup, 0, 0, [], .null),
  (115, .invokespecial 65, 58, 4, [], .null),
  (118, .aastore, 0, 0, [], .null),
  (119, .iinc 1 1, 1, 0, [], .int 1),
  (122, .goto (-25), 46, 0, [], .null),
  (125, .iconst 0, 0, 0, [], .int 0),
  (126, .istore_n 1, 1, 0, [], .null),
  (127, .iload_n 1, 1, 0, [], .null),
  (128, .aload_n 0, 0, 0, [], .null),
  (129, .getfield 52, 10, 6, [], .null),
  (132, .arraylength, 0, 0, [], .null),
  (133, .if_icmp .ge 22, 76, 0, [], .null),
  (136, .aload_n 0, 0, 0, [], .null),
  (137, .getfield 52, 10, 6, [], .null),
  (140, .iload_n 1, 1, 0, [], .null),
  (141, .new 16, 8, 0, [], .null),
  (144, .dup, 0, 0, [], .null),
  (145, .invokespecial 18, 74, 4, [], .null),
  (148, .aastore, 0, 0, [], .null),
  (149, .iinc 1 1, 1, 0, [], .int 1),
  (152, .goto (-25), 62, 0, [], .null),
  (155, .return_, 0, 0, [], .null)]
def xm_m87 : xm_M := (11, ⟨"StairNews", "<init>", "()V"⟩, prog_1_method_1_code, 2, (Option.none : Option Jvm.ClassFile.FieldType), 0, 336, 7386, xm_c87)
def xm_c88 : List xm_E := [(0, .aload_n 0, 0, 0, [], .null),
  (1, .getfield 12, 10, 0, [], .null),
  (4, .getfield 66, 9, 1, [], .null),
  (7, .bipush 20, 0, 0, [], .int 20),
  (9, .iadd, 0, 0, [], .null),
  (10, .sipush 400, 0, 0, [], .int 400),
  (13, .if_icmp .le 5, 9, 0, [], .null),
  (16, .iconst (-1), 0, 0, [], .int (-1)),
  (17, .ireturn, 0, 0, [], .null),
  (18, .aload_n 0, 0, 0, [], .null),
  (19, .getfield 12, 10, 0, [], .null),
  (22, .iload_n 1, 1, 0, [], .null),
  (23, .invokevirtual 70, 79, 0, [], .null),
  (26, .aload_n 0, 0, 0, [], .null),
  (27, .getfield 12, 10, 0, [], .null),
  (30, .iload_n 2, 2, 0, [], .null),
  (31, .invokevirtual 70, 79, 0, [], .null),
  (34, .aload_n 0, 0, 0, [], .null),
  (35, .getfield 12, 10, 0, [], .null),
  (38, .iload_n 3, 3, 0, [], .null),
  (39, .invokevirtual 70, 79, 0, [], .null),
  (42, .aload_n 0, 0, 0, [], .null),
  (43, .getfield 12, 10, 0, [], .null),
  (46, .iload 4, 4, 0, [], .null),
  (48, .invokevirtual 70, 79, 0, [], .null),
  (51, .aload_n 0, 0, 0, [], .null),
  (52, .getfield 12, 10, 0, [], .null),
  (55, .iload 5, 5, 0, [], .null),
  (57, .invokevirtual 70, 79, 0, [], .null),
  (60, .aload_n 0, 0, 0, [], .null),
  (61, .getfield 12, 10, 0, [], .null),
  (64, .getfield 66, 9, 1, [], .null),
  (67, .ireturn, 0, 0, [], .null)]
def xm_m88 : xm_M := (11, ⟨"StairNews", "feed", "(IIIII)I"⟩, prog_1_method_2_code, 6, (Option.some Jvm.ClassFile.FieldType.int), 5, 0, 0, xm_c88)
def xm_c89 : List xm_E := [(0, .iload_n 1, 1, 0, [], .null),
  (1, .ifCond .lt 14, 7, 0, [], .null),
  (4, .iload_n 1, 1, 0, [], .null),
  (5, .aload_n 0, 0, 0, [], .null),
  (6, .getfield 12, 10, 0, [], .null),
  (9, .getfield 66, 9, 1, [], .null),
  (12, .if_icmp .le 5, 9, 0, [], .null),
  (15, .iconst (-1), 0, 0, [], .int (-1)),
  (16, .ireturn, 0, 0, [], .null),
  (17, .aload_n 0, 0, 0, [], .null),
  (18, .getfield 12, 10, 0, [], .null),
  (21, .iload_n 1, 1, 0, [], .null),
  (22, .putfield 66, 9, 1, [], .null),
  (25, .iload_n 1, 1, 0, [], .null),
  (26, .ireturn, 0, 0, [], .null)]
def xm_m89 : xm_M := (11, ⟨"StairNews", "end", "(I)I"⟩, prog_1_method_3_code, 2, (Option.some Jvm.ClassFile.FieldType.int), 1, 0, 0, xm_c89)
def xm_c90 : List xm_E := [(0, .aload_n 0, 0, 0, [], .null),
  (1, .getfield 12, 10, 0, [], .null),
  (4, .aload_n 0, 0, 0, [], .null),
  (5, .getfield 26, 10, 2, [], .null),
  (8, .invokestatic 74, 29, 1, [], .null),
  (11, .istore_n 1, 1, 0, [], .null),
  (12, .aload_n 0, 0, 0, [], .null),
  (13, .getfield 12, 10, 0, [], .null),
  (16, .iconst 0, 0, 0, [], .int 0),
  (17, .putfield 66, 9, 1, [], .null),
  (20, .iload_n 1, 1, 0, [], .null),
  (21, .ifCond .eq 8, 16, 0, [], .null),
  (24, .bipush (-2), 0, 0, [], .int (-2)),
  (26, .iload_n 1, 1, 0, [], .null),
  (27, .isub, 0, 0, [], .null),
  (28, .ireturn, 0, 0, [], .null),
  (29, .aload_n 0, 0, 0, [], .null),
  (30, .getfield 19, 10, 1, [], .null),
  (33, .aload_n 0, 0, 0, [], .null),
  (34, .getfield 26, 10, 2, [], .null),
  (37, .invokevirtual 80, 75, 0, [], .null),
  (40, .aload_n 0, 0, 0, [], .null),
  (41, .getfield 48, 10, 5, [], .null),
  (44, .invokevirtual 84, 19, 0, [], .null),
  (47, .aload_n 0, 0, 0, [], .null),
  (48, .getfield 19, 10, 1, [], .null),
  (51, .getfield 87, 8, 0, [], .null),
  (54, .getfield 90, 3, 1, [], .null),
  (57, .ireturn, 0, 0, [], .null)]
def xm_m90 : xm_M := (11, ⟨"StairNews", "house", "()I"⟩, prog_1_method_4_code, 2, (Option.some Jvm.ClassFile.FieldType.int), 0, 0, 0, xm_c90)
def xm_c91 : List xm_E := [(0, .aload_n 0, 0, 0, [], .null),
  (1, .getfield 93, 10, 8, [], .null),
  (4, .bipush 6, 0, 0, [], .int 6),
  (6, .if_icmp .lt 5, 6, 0, [], .null),
  (9, .iconst (-1), 0, 0, [], .int (-1)),
  (10, .ireturn, 0, 0, [], .null),
  (11, .aload_n 0, 0, 0, [], .null),
  (12, .getfield 41, 10, 4, [], .null),
  (15, .aload_n 0, 0, 0, [], .null),
  (16, .getfield 32, 10, 3, [], .null),
  (19, .aload_n 0, 0, 0, [], .null),
  (20, .getfield 93, 10, 8, [], .null),
  (23, .aaload, 0, 0, [], .null),
  (24, .invokevirtual 96, 66, 0, [], .null),
  (27, .istore_n 1, 1, 0, [], .null),
  (28, .aload_n 0, 0, 0, [], .null),
  (29, .getfield 12, 10, 0, [], .null),
  (32, .iconst 0, 0, 0, [], .int 0),
  (33, .putfield 66, 9, 1, [], .null),
  (36, .iload_n 1, 1, 0, [], .null),
  (37, .ifCond .eq 8, 25, 0, [], .null),
  (40, .bipush (-2), 0, 0, [], .int (-2)),
  (42, .iload_n 1, 1, 0, [], .null),
  (43, .isub, 0, 0, [], .null),
  (44, .ireturn, 0, 0, [], .null),
  (45, .aload_n 0, 0, 0, [], .null),
  (46, .dup, 0, 0, [], .null),
  (47, .getfield 93, 10, 8, [], .null),
  (50, .iconst 1, 0, 0, [], .int 1),
  (51, .iadd, 0, 0, [], .null),
  (52, .putfield 93, 10, 8, [], .null),
  (55, .aload_n 0, 0, 0, [], .null),
  (56, .getfield 93, 10, 8, [], .null),
  (59, .iconst 1, 0, 0, [], .int 1),
  (60, .isub, 0, 0, [], .null),
  (61, .ireturn, 0, 0, [], .null)]
def xm_m91 : xm_M := (11, ⟨"StairNews", "rule", "()I"⟩, prog_1_method_5_code, 2, (Option.some Jvm.ClassFile.FieldType.int), 0, 0, 0, xm_c91)
def xm_c92 : List xm_E := [(0, .iload_n 1, 1, 0, [], .null),
  (1, .iconst (-1), 0, 0, [], .int (-1)),
  (2, .if_icmp .eq 18, 11, 0, [], .null),
  (5, .iload_n 1, 1, 0, [], .null),
  (6, .ifCond .lt 11, 9, 0, [], .null),
  (9, .iload_n 1, 1, 0, [], .null),
  (10, .aload_n 0, 0, 0, [], .null),
  (11, .getfield 93, 10, 8, [], .null),
  (14, .if_icmp .lt 6, 11, 0, [], .null),
  (17, .bipush (-2), 0, 0, [], .int (-2)),
  (19, .ireturn, 0, 0, [], .null),
  (20, .aload_n 0, 0, 0, [], .null),
  (21, .getfield 19, 10, 1, [], .null),
  (24, .getfield 99, 8, 6, [], .null),
  (27, .istore_n 2, 2, 0, [], .null),
  (28, .aload_n 0, 0, 0, [], .null),
  (29, .getfield 19, 10, 1, [], .null),
  (32, .iload_n 1, 1, 0, [], .null),
  (33, .putfield 99, 8, 6, [], .null),
  (36, .iload_n 2, 2, 0, [], .null),
  (37, .ireturn, 0, 0, [], .null)]
def xm_m92 : xm_M := (11, ⟨"StairNews", "force", "(I)I"⟩, prog_1_method_6_code, 3, (Option.some Jvm.ClassFile.FieldType.int), 1, 0, 0, xm_c92)
def xm_c93 : List xm_E := [(0, .aload_n 0, 0, 0, [], .null),
  (1, .getfield 19, 10, 1, [], .null),
  (4, .getfield 87, 8, 0, [], .null),
  (7, .iload_n 1, 1, 0, [], .null),
  (8, .invokevirtual 102, 23, 0, [], .null),
  (11, .ifCond .ne 7, 8, 0, [], .null),
  (14, .sipush (-1000), 0, 0, [], .int (-1000)),
  (17, .ireturn, 0, 0, [], .null),
  (18, .iload_n 2, 2, 0, [], .null),
  (19, .tableswitch 151 0 7 #[45, 58, 71, 84, 97, 110, 123, 138], 66, 0, [10, 17, 24, 31, 38, 45, 52, 59], .null),
  (64, .aload_n 0, 0, 0, [], .null),
  (65, .getfield 19, 10, 1, [], .null),
  (68, .getfield 106, 8, 1, [], .null),
  (71, .getfield 110, 0, 2, [], .null),
  (74, .iload_n 1, 1, 0, [], .null),
  (75, .iaload, 0, 0, [], .null),
  (76, .ireturn, 0, 0, [], .null),
  (77, .aload_n 0, 0, 0, [], .null),
  (78, .getfield 19, 10, 1, [], .null),
  (81, .getfield 106, 8, 1, [], .null),
  (84, .getfield 116, 0, 3, [], .null),
  (87, .iload_n 1, 1, 0, [], .null),
  (88, .iaload, 0, 0, [], .null),
  (89, .ireturn, 0, 0, [], .null),
  (90, .aload_n 0, 0, 0, [], .null),
  (91, .getfield 19, 10, 1, [], .null),
  (94, .getfield 106, 8, 1, [], .null),
  (97, .getfield 119, 0, 4, [], .null),
  (100, .iload_n 1, 1, 0, [], .null),
  (101, .iaload, 0, 0, [], .null),
  (102, .ireturn, 0, 0, [], .null),
  (103, .aload_n 0, 0, 0, [], .null),
  (104, .getfield 19, 10, 1, [], .null),
  (107, .getfield 106, 8, 1, [], .null),
  (110, .getfield 122, 0, 5, [], .null),
  (113, .iload_n 1, 1, 0, [], .null),
  (114, .iaload, 0, 0, [], .null),
  (115, .ireturn, 0, 0, [], .null),
  (116, .aload_n 0, 0, 0, [], .null),
  (117, .getfield 19, 10, 1, [], .null),
  (120, .getfield 87, 8, 0, [], .null),
  (123, .getfield 125, 3, 10, [], .null),
  (126, .iload_n 1, 1, 0, [], .null),
  (127, .iaload, 0, 0, [], .null),
  (128, .ireturn, 0, 0, [], .null),
  (129, .aload_n 0, 0, 0, [], .null),
  (130, .getfield 19, 10, 1, [], .null),
  (133, .getfield 87, 8, 0, [], .null),
  (136, .getfield 128, 3, 12, [], .null),
  (139, .iload_n 1, 1, 0, [], .null),
  (140, .iaload, 0, 0, [], .null),
  (141, .ireturn, 0, 0, [], .null),
  (142, .aload_n 0, 0, 0, [], .null),
  (143, .getfield 19, 10, 1, [], .null),
  (146, .getfield 87, 8, 0, [], .null),
  (149, .getfield 131, 3, 4, [], .null),
  (152, .iload_n 1, 1, 0, [], .null),
  (153, .invokestatic 134, 120, 1, [], .null),
  (156, .ireturn, 0, 0, [], .null),
  (157, .aload_n 0, 0, 0, [], .null),
  (158, .getfield 19, 10, 1, [], .null),
  (161, .getfield 87, 8, 0, [], .null),
  (164, .getfield 138, 3, 13, [], .null),
  (167, .iload_n 1, 1, 0, [], .null),
  (168, .iaload, 0, 0, [], .null),
  (169, .ireturn, 0, 0, [], .null),
  (170, .sipush (-1000), 0, 0, [], .int (-1000)),
  (173, .ireturn, 0, 0, [], .null)]
def xm_m93 : xm_M := (11, ⟨"StairNews", "person", "(II)I"⟩, prog_1_method_7_code, 3, (Option.some Jvm.ClassFile.FieldType.int), 2, 0, 0, xm_c93)
def xm_c94 : List xm_E := [(0, .aload_n 0, 0, 0, [], .null),
  (1, .getfield 19, 10, 1, [], .null),
  (4, .getfield 87, 8, 0, [], .null),
  (7, .iload_n 1, 1, 0, [], .null),
  (8, .invokevirtual 102, 23, 0, [], .null),
  (11, .ifCond .ne 7, 8, 0, [], .null),
  (14, .sipush (-1000), 0, 0, [], .int (-1000)),
  (17, .ireturn, 0, 0, [], .null),
  (18, .iload_n 2, 2, 0, [], .null),
  (19, .tableswitch 64 0 2 #[25, 38, 51], 31, 0, [10, 17, 24], .null),
  (44, .aload_n 0, 0, 0, [], .null),
  (45, .getfield 19, 10, 1, [], .null),
  (48, .getfield 141, 8, 2, [], .null),
  (51, .getfield 145, 4, 1, [], .null),
  (54, .iload_n 1, 1, 0, [], .null),
  (55, .iaload, 0, 0, [], .null),
  (56, .ireturn, 0, 0, [], .null),
  (57, .aload_n 0, 0, 0, [], .null),
  (58, .getfield 19, 10, 1, [], .null),
  (61, .getfield 141, 8, 2, [], .null),
  (64, .getfield 150, 4, 2, [], .null),
  (67, .iload_n 1, 1, 0, [], .null),
  (68, .iaload, 0, 0, [], .null),
  (69, .ireturn, 0, 0, [], .null),
  (70, .aload_n 0, 0, 0, [], .null),
  (71, .getfield 19, 10, 1, [], .null),
  (74, .getfield 141, 8, 2, [], .null),
  (77, .getfield 153, 4, 3, [], .null),
  (80, .iload_n 1, 1, 0, [], .null),
  (81, .iaload, 0, 0, [], .null),
  (82, .ireturn, 0, 0, [], .null),
  (83, .sipush (-1000), 0, 0, [], .int (-1000)),
  (86, .ireturn, 0, 0, [], .null)]
def xm_m94 : xm_M := (11, ⟨"StairNews", "knows", "(II)I"⟩, prog_1_method_8_code, 3, (Option.some Jvm.ClassFile.FieldType.int), 2, 0, 0, xm_c94)
def xm_c95 : List xm_E := [(0, .aload_n 0, 0, 0, [], .null),
  (1, .getfield 19, 10, 1, [], .null),
  (4, .getfield 87, 8, 0, [], .null),
  (7, .iload_n 1, 1, 0, [], .null),
  (8, .invokevirtual 156, 22, 0, [], .null),
  (11, .ifCond .ne 5, 8, 0, [], .null),
  (14, .iconst (-1), 0, 0, [], .int (-1)),
  (15, .ireturn, 0, 0, [], .null),
  (16, .iload_n 2, 2, 0, [], .null),
  (17, .tableswitch 79 0 2 #[27, 49, 64], 34, 0, [10, 20, 27], .null),
  (44, .aload_n 0, 0, 0, [], .null),
  (45, .getfield 19, 10, 1, [], .null),
  (48, .getfield 106, 8, 1, [], .null),
  (51, .iload_n 1, 1, 0, [], .null),
  (52, .aload_n 0, 0, 0, [], .null),
  (53, .getfield 19, 10, 1, [], .null),
  (56, .getfield 87, 8, 0, [], .null),
  (59, .getfield 90, 3, 1, [], .null),
  (62, .invokevirtual 159, 7, 0, [], .null),
  (65, .ireturn, 0, 0, [], .null),
  (66, .aload_n 0, 0, 0, [], .null),
  (67, .getfield 19, 10, 1, [], .null),
  (70, .getfield 106, 8, 1, [], .null),
  (73, .getfield 162, 0, 1, [], .null),
  (76, .iload_n 1, 1, 0, [], .null),
  (77, .invokestatic 134, 120, 1, [], .null),
  (80, .ireturn, 0, 0, [], .null),
  (81, .aload_n 0, 0, 0, [], .null),
  (82, .getfield 19, 10, 1, [], .null),
  (85, .getfield 87, 8, 0, [], .null),
  (88, .getfield 165, 3, 6, [], .null),
  (91, .iload_n 1, 1, 0, [], .null),
  (92, .invokestatic 134, 120, 1, [], .null),
  (95, .ireturn, 0, 0, [], .null),
  (96, .iconst (-1), 0, 0, [], .int (-1)),
  (97, .ireturn, 0, 0, [], .null)]
def xm_m95 : xm_M := (11, ⟨"StairNews", "floor", "(II)I"⟩, prog_1_method_9_code, 3, (Option.some Jvm.ClassFile.FieldType.int), 2, 0, 0, xm_c95)
def xm_c96 : List xm_E := [(0, .aload_n 0, 0, 0, [], .null),
  (1, .getfield 19, 10, 1, [], .null),
  (4, .getfield 87, 8, 0, [], .null),
  (7, .invokevirtual 168, 21, 0, [], .null),
  (10, .ifCond .eq 19, 11, 0, [], .null),
  (13, .aload_n 0, 0, 0, [], .null),
  (14, .getfield 19, 10, 1, [], .null),
  (17, .getfield 106, 8, 1, [], .null),
  (20, .getfield 172, 0, 0, [], .null),
  (23, .sipush 999, 0, 0, [], .int 999),
  (26, .if_icmp .lt 5, 13, 0, [], .null),
  (29, .iconst (-1), 0, 0, [], .int (-1)),
  (30, .ireturn, 0, 0, [], .null),
  (31, .aload_n 0, 0, 0, [], .null),
  (32, .getfield 48, 10, 5, [], .null),
  (35, .aload_n 0, 0, 0, [], .null),
  (36, .getfield 19, 10, 1, [], .null),
  (39, .invokevirtual 175, 17, 0, [], .null),
  (42, .aload_n 0, 0, 0, [], .null),
  (43, .getfield 61, 10, 7, [], .null),
  (46, .aload_n 0, 0, 0, [], .null),
  (47, .invokevirtual 178, 118, 0, [], .null),
  (50, .invokevirtual 182, 42, 0, [], .null),
  (53, .aload_n 0, 0, 0, [], .null),
  (54, .getfield 61, 10, 7, [], .null),
  (57, .invokevirtual 186, 43, 0, [], .null),
  (60, .invokestatic 190, 239, 1, [], .null),
  (63, .ireturn, 0, 0, [], .null)]
def xm_m96 : xm_M := (11, ⟨"StairNews", "bell", "()I"⟩, prog_1_method_10_code, 1, (Option.some Jvm.ClassFile.FieldType.int), 0, 0, 0, xm_c96)
def xm_c97 : List xm_E := [(0, .aload_n 0, 0, 0, [], .null),
  (1, .getfield 19, 10, 1, [], .null),
  (4, .getfield 87, 8, 0, [], .null),
  (7, .iload_n 1, 1, 0, [], .null),
  (8, .invokevirtual 102, 23, 0, [], .null),
  (11, .ifCond .eq 13, 11, 0, [], .null),
  (14, .iload_n 2, 2, 0, [], .null),
  (15, .ifCond .lt 9, 11, 0, [], .null),
  (18, .iload_n 2, 2, 0, [], .null),
  (19, .bipush 99, 0, 0, [], .int 99),
  (21, .if_icmp .le 5, 13, 0, [], .null),
  (24, .iconst 0, 0, 0, [], .int 0),
  (25, .ireturn, 0, 0, [], .null),
  (26, .aload_n 0, 0, 0, [], .null),
  (27, .getfield 19, 10, 1, [], .null),
  (30, .getfield 87, 8, 0, [], .null),
  (33, .getfield 131, 3, 4, [], .null),
  (36, .aload_n 0, 0, 0, [], .null),
  (37, .getfield 19, 10, 1, [], .null),
  (40, .getfield 141, 8, 2, [], .null),
  (43, .getfield 196, 4, 0, [], .null),
  (46, .ior, 0, 0, [], .null),
  (47, .iload_n 1, 1, 0, [], .null),
  (48, .invokestatic 134, 120, 1, [], .null),
  (51, .iconst 1, 0, 0, [], .int 1),
  (52, .if_icmp .ne 5, 28, 0, [], .null),
  (55, .iconst 0, 0, 0, [], .int 0),
  (56, .ireturn, 0, 0, [], .null),
  (57, .aload_n 0, 0, 0, [], .null),
  (58, .getfield 48, 10, 5, [], .null),
  (61, .aload_n 0, 0, 0, [], .null),
  (62, .getfield 19, 10, 1, [], .null),
  (65, .invokevirtual 175, 17, 0, [], .null),
  (68, .aload_n 0, 0, 0, [], .null),
  (69, .getfield 19, 10, 1, [], .null),
  (72, .getfield 141, 8, 2, [], .null),
  (75, .iload_n 1, 1, 0, [], .null),
  (76, .iload_n 2, 2, 0, [], .null),
  (77, .iconst (-1), 0, 0, [], .int (-1)),
  (78, .aload_n 0, 0, 0, [], .null),
  (79, .getfield 19, 10, 1, [], .null),
  (82, .getfield 106, 8, 1, [], .null),
  (85, .getfield 172, 0, 0, [], .null),
  (88, .invokevirtual 199, 38, 0, [], .null),
  (91, .iconst 1, 0, 0, [], .int 1),
  (92, .ireturn, 0, 0, [], .null)]
def xm_m97 : xm_M := (11, ⟨"StairNews", "whisper", "(II)Z"⟩, prog_1_method_11_code, 3, (Option.some Jvm.ClassFile.FieldType.boolean), 2, 0, 0, xm_c97)
def xm_c98 : List xm_E := [(0, .aload_n 0, 0, 0, [], .null),
  (1, .getfield 19, 10, 1, [], .null),
  (4, .getfield 87, 8, 0, [], .null),
  (7, .iload_n 1, 1, 0, [], .null),
  (8, .invokevirtual 102, 23, 0, [], .null),
  (11, .ifCond .eq 17, 12, 0, [], .null),
  (14, .aload_n 0, 0, 0, [], .null),
  (15, .getfield 19, 10, 1, [], .null),
  (18, .getfield 87, 8, 0, [], .null),
  (21, .iload_n 2, 2, 0, [], .null),
  (22, .invokevirtual 156, 22, 0, [], .null),
  (25, .ifCond .ne 5, 14, 0, [], .null),
  (28, .iconst (-1), 0, 0, [], .int (-1)),
  (29, .ireturn, 0, 0, [], .null),
  (30, .aload_n 0, 0, 0, [], .null),
  (31, .getfield 19, 10, 1, [], .null),
  (34, .getfield 106, 8, 1, [], .null),
  (37, .iload_n 1, 1, 0, [], .null),
  (38, .invokevirtual 203, 4, 0, [], .null),
  (41, .ifCond .eq 19, 28, 0, [], .null),
  (44, .aload_n 0, 0, 0, [], .null),
  (45, .getfield 19, 10, 1, [], .null),
  (48, .getfield 106, 8, 1, [], .null),
  (51, .getfield 110, 0, 2, [], .null),
  (54, .iload_n 1, 1, 0, [], .null),
  (55, .iaload, 0, 0, [], .null),
  (56, .iload_n 2, 2, 0, [], .null),
  (57, .if_icmp .ne 5, 30, 0, [], .null),
  (60, .iconst (-1), 0, 0, [], .int (-1)),
  (61, .ireturn, 0, 0, [], .null),
  (62, .aload_n 0, 0, 0, [], .null),
  (63, .getfield 48, 10, 5, [], .null),
  (66, .aload_n 0, 0, 0, [], .null),
  (67, .getfield 19, 10, 1, [], .null),
  (70, .invokevirtual 175, 17, 0, [], .null),
  (73, .aload_n 0, 0, 0, [], .null),
  (74, .getfield 19, 10, 1, [], .null),
  (77, .getfield 106, 8, 1, [], .null),
  (80, .iload_n 1, 1, 0, [], .null),
  (81, .iload_n 2, 2, 0, [], .null),
  (82, .invokevirtual 206, 5, 0, [], .null),
  (85, .iload_n 2, 2, 0, [], .null),
  (86, .aload_n 0, 0, 0, [], .null),
  (87, .getfield 19, 10, 1, [], .null),
  (90, .getfield 106, 8, 1, [], .null),
  (93, .getfield 110, 0, 2, [], .null),
  (96, .iload_n 1, 1, 0, [], .null),
  (97, .iaload, 0, 0, [], .null),
  (98, .isub, 0, 0, [], .null),
  (99, .invokestatic 210, 1002, 0, [], .null),
  (102, .ireturn, 0, 0, [], .null)]
def xm_m98 : xm_M := (11, ⟨"StairNews", "send", "(II)I"⟩, prog_1_method_12_code, 3, (Option.some Jvm.ClassFile.FieldType.int), 2, 0, 0, xm_c98)
def xm_c99 : List xm_E := [(0, .aload_n 0, 0, 0, [], .null),
  (1, .getfield 19, 10, 1, [], .null),
  (4, .getfield 87, 8, 0, [], .null),
  (7, .iload_n 1, 1, 0, [], .null),
  (8, .invokevirtual 156, 22, 0, [], .null),
  (11, .ifCond .ne 5, 8, 0, [], .null),
  (14, .iconst (-1), 0, 0, [], .int (-1)),
  (15, .ireturn, 0, 0, [], .null),
  (16, .aload_n 0, 0, 0, [], .null),
  (17, .getfield 48, 10, 5, [], .null),
  (20, .aload_n 0, 0, 0, [], .null),
  (21, .getfield 19, 10, 1, [], .null),
  (24, .invokevirtual 175, 17, 0, [], .null),
  (27, .aload_n 0, 0, 0, [], .null),
  (28, .getfield 19, 10, 1, [], .null),
  (31, .getfield 106, 8, 1, [], .null),
  (34, .dup, 0, 0, [], .null),
  (35, .getfield 162, 0, 1, [], .null),
  (38, .iconst 1, 0, 0, [], .int 1),
  (39, .iload_n 1, 1, 0, [], .null),
  (40, .ishl, 0, 0, [], .null),
  (41, .ixor, 0, 0, [], .null),
  (42, .putfield 162, 0, 1, [], .null),
  (45, .aload_n 0, 0, 0, [], .null),
  (46, .getfield 19, 10, 1, [], .null),
  (49, .getfield 106, 8, 1, [], .null),
  (52, .getfield 162, 0, 1, [], .null),
  (55, .iload_n 1, 1, 0, [], .null),
  (56, .invokestatic 134, 120, 1, [], .null),
  (59, .ireturn, 0, 0, [], .null)]
def xm_m99 : xm_M := (11, ⟨"StairNews", "plant", "(I)I"⟩, prog_1_method_13_code, 2, (Option.some Jvm.ClassFile.FieldType.int), 1, 0, 0, xm_c99)
def xm_c100 : List xm_E := [(0, .aload_n 0, 0, 0, [], .null),
  (1, .getfield 19, 10, 1, [], .null),
  (4, .getfield 87, 8, 0, [], .null),
  (7, .iload_n 1, 1, 0, [], .null),
  (8, .invokevirtual 102, 23, 0, [], .null),
  (11, .ifCond .eq 20, 14, 0, [], .null),
  (14, .aload_n 0, 0, 0, [], .null),
  (15, .getfield 19, 10, 1, [], .null),
  (18, .getfield 106, 8, 1, [], .null),
  (21, .getfield 122, 0, 5, [], .null),
  (24, .iload_n 1, 1, 0, [], .null),
  (25, .iaload, 0, 0, [], .null),
  (26, .bipush 9, 0, 0, [], .int 9),
  (28, .if_icmp .lt 5, 16, 0, [], .null),
  (31, .iconst (-1), 0, 0, [], .int (-1)),
  (32, .ireturn, 0, 0, [], .null),
  (33, .aload_n 0, 0, 0, [], .null),
  (34, .getfield 48, 10, 5, [], .null),
  (37, .aload_n 0, 0, 0, [], .null),
  (38, .getfield 19, 10, 1, [], .null),
  (41, .invokevirtual 175, 17, 0, [], .null),
  (44, .aload_n 0, 0, 0, [], .null),
  (45, .getfield 19, 10, 1, [], .null),
  (48, .getfield 106, 8, 1, [], .null),
  (51, .getfield 122, 0, 5, [], .null),
  (54, .iload_n 1, 1, 0, [], .null),
  (55, .dup2, 0, 0, [], .null),
  (56, .iaload, 0, 0, [], .null),
  (57, .iconst 1, 0, 0, [], .int 1),
  (58, .iadd, 0, 0, [], .null),
  (59, .iastore, 0, 0, [], .null),
  (60, .aload_n 0, 0, 0, [], .null),
  (61, .getfield 19, 10, 1, [], .null),
  (64, .getfield 106, 8, 1, [], .null),
  (67, .getfield 122, 0, 5, [], .null),
  (70, .iload_n 1, 1, 0, [], .null),
  (71, .iaload, 0, 0, [], .null),
  (72, .ireturn, 0, 0, [], .null)]
def xm_m100 : xm_M := (11, ⟨"StairNews", "heel", "(I)I"⟩, prog_1_method_14_code, 2, (Option.some Jvm.ClassFile.FieldType.int), 1, 0, 0, xm_c100)
def xm_c101 : List xm_E := [(0, .aload_n 0, 0, 0, [], .null),
  (1, .getfield 48, 10, 5, [], .null),
  (4, .getfield 215, 2, 3, [], .null),
  (7, .ifCond .ne 5, 6, 0, [], .null),
  (10, .iconst (-1), 0, 0, [], .int (-1)),
  (11, .ireturn, 0, 0, [], .null),
  (12, .aload_n 0, 0, 0, [], .null),
  (13, .getfield 48, 10, 5, [], .null),
  (16, .aload_n 0, 0, 0, [], .null),
  (17, .getfield 19, 10, 1, [], .null),
  (20, .invokevirtual 218, 18, 0, [], .null),
  (23, .aload_n 0, 0, 0, [], .null),
  (24, .getfield 48, 10, 5, [], .null),
  (27, .getfield 215, 2, 3, [], .null),
  (30, .ireturn, 0, 0, [], .null)]
def xm_m101 : xm_M := (11, ⟨"StairNews", "undo", "()I"⟩, prog_1_method_15_code, 1, (Option.some Jvm.ClassFile.FieldType.int), 0, 0, 0, xm_c101)
def xm_c102 : List xm_E := [(0, .aload_n 0, 0, 0, [], .null),
  (1, .getfield 19, 10, 1, [], .null),
  (4, .getfield 87, 8, 0, [], .null),
  (7, .invokevirtual 168, 21, 0, [], .null),
  (10, .ifCond .eq 13, 10, 0, [], .null),
  (13, .iload_n 1, 1, 0, [], .null),
  (14, .ifCond .lt 9, 10, 0, [], .null),
  (17, .iload_n 1, 1, 0, [], .null),
  (18, .bipush 100, 0, 0, [], .int 100),
  (20, .if_icmp .le 5, 12, 0, [], .null),
  (23, .iconst (-1), 0, 0, [], .int (-1)),
  (24, .ireturn, 0, 0, [], .null),
  (25, .aload_n 0, 0, 0, [], .null),
  (26, .getfield 61, 10, 7, [], .null),
  (29, .aload_n 0, 0, 0, [], .null),
  (30, .invokevirtual 178, 118, 0, [], .null),
  (33, .invokevirtual 182, 42, 0, [], .null),
  (36, .aload_n 0, 0, 0, [], .null),
  (37, .getfield 61, 10, 7, [], .null),
  (40, .iload_n 1, 1, 0, [], .null),
  (41, .invokevirtual 221, 44, 0, [], .null),
  (44, .aload_n 0, 0, 0, [], .null),
  (45, .getfield 61, 10, 7, [], .null),
  (48, .iconst 0, 0, 0, [], .int 0),
  (49, .iload_n 1, 1, 0, [], .null),
  (50, .invokevirtual 224, 45, 0, [], .null),
  (53, .aload_n 0, 0, 0, [], .null),
  (54, .getfield 61, 10, 7, [], .null),
  (57, .getfield 227, 5, 3, [], .null),
  (60, .getfield 196, 4, 0, [], .null),
  (63, .ireturn, 0, 0, [], .null)]
def xm_m102 : xm_M := (11, ⟨"StairNews", "ahead", "(I)I"⟩, prog_1_method_16_code, 2, (Option.some Jvm.ClassFile.FieldType.int), 1, 0, 0, xm_c102)
def xm_c103 : List xm_E := [(0, .aload_n 0, 0, 0, [], .null),
  (1, .getfield 19, 10, 1, [], .null),
  (4, .getfield 87, 8, 0, [], .null),
  (7, .iload_n 1, 1, 0, [], .null),
  (8, .invokevirtual 102, 23, 0, [], .null),
  (11, .ifCond .eq 13, 11, 0, [], .null),
  (14, .iload_n 2, 2, 0, [], .null),
  (15, .ifCond .lt 9, 11, 0, [], .null),
  (18, .iload_n 2, 2, 0, [], .null),
  (19, .bipush 100, 0, 0, [], .int 100),
  (21, .if_icmp .le 5, 13, 0, [], .null),
  (24, .iconst (-1), 0, 0, [], .int (-1)),
  (25, .ireturn, 0, 0, [], .null),
  (26, .aload_n 0, 0, 0, [], .null),
  (27, .getfield 61, 10, 7, [], .null),
  (30, .aload_n 0, 0, 0, [], .null),
  (31, .invokevirtual 178, 118, 0, [], .null),
  (34, .invokevirtual 182, 42, 0, [], .null),
  (37, .aload_n 0, 0, 0, [], .null),
  (38, .getfield 61, 10, 7, [], .null),
  (41, .iload_n 2, 2, 0, [], .null),
  (42, .invokevirtual 221, 44, 0, [], .null),
  (45, .aload_n 0, 0, 0, [], .null),
  (46, .getfield 61, 10, 7, [], .null),
  (49, .getfield 228, 5, 2, [], .null),
  (52, .getfield 110, 0, 2, [], .null),
  (55, .iload_n 1, 1, 0, [], .null),
  (56, .iaload, 0, 0, [], .null),
  (57, .ireturn, 0, 0, [], .null)]
def xm_m103 : xm_M := (11, ⟨"StairNews", "where", "(II)I"⟩, prog_1_method_17_code, 3, (Option.some Jvm.ClassFile.FieldType.int), 2, 0, 0, xm_c103)
def xm_c104 : List xm_E := [(0, .aload_n 0, 0, 0, [], .null),
  (1, .getfield 19, 10, 1, [], .null),
  (4, .getfield 87, 8, 0, [], .null),
  (7, .iload_n 1, 1, 0, [], .null),
  (8, .invokevirtual 102, 23, 0, [], .null),
  (11, .ifCond .ne 5, 8, 0, [], .null),
  (14, .iconst (-1), 0, 0, [], .int (-1)),
  (15, .ireturn, 0, 0, [], .null),
  (16, .aload_n 0, 0, 0, [], .null),
  (17, .getfield 61, 10, 7, [], .null),
  (20, .aload_n 0, 0, 0, [], .null),
  (21, .invokevirtual 178, 118, 0, [], .null),
  (24, .invokevirtual 182, 42, 0, [], .null),
  (27, .aload_n 0, 0, 0, [], .null),
  (28, .getfield 61, 10, 7, [], .null),
  (31, .bipush 100, 0, 0, [], .int 100),
  (33, .invokevirtual 221, 44, 0, [], .null),
  (36, .aload_n 0, 0, 0, [], .null),
  (37, .getfield 61, 10, 7, [], .null),
  (40, .iconst 0, 0, 0, [], .int 0),
  (41, .bipush 100, 0, 0, [], .int 100),
  (43, .invokevirtual 224, 45, 0, [], .null),
  (46, .aload_n 0, 0, 0, [], .null),
  (47, .getfield 61, 10, 7, [], .null),
  (50, .getfield 227, 5, 3, [], .null),
  (53, .getfield 196, 4, 0, [], .null),
  (56, .iload_n 1, 1, 0, [], .null),
  (57, .invokestatic 134, 120, 1, [], .null),
  (60, .iconst 1, 0, 0, [], .int 1),
  (61, .if_icmp .ne 18, 37, 0, [], .null),
  (64, .aload_n 0, 0, 0, [], .null),
  (65, .getfield 61, 10, 7, [], .null),
  (68, .getfield 227, 5, 3, [], .null),
  (71, .getfield 145, 4, 1, [], .null),
  (74, .iload_n 1, 1, 0, [], .null),
  (75, .iaload, 0, 0, [], .null),
  (76, .goto 5, 38, 0, [], .null),
  (79, .bipush (-2), 0, 0, [], .int (-2)),
  (81, .ireturn, 0, 0, [], .null)]
def xm_m104 : xm_M := (11, ⟨"StairNews", "hears", "(I)I"⟩, prog_1_method_18_code, 2, (Option.some Jvm.ClassFile.FieldType.int), 1, 0, 0, xm_c104)
def xm_c105 : List xm_E := [(0, .aload_n 0, 0, 0, [], .null),
  (1, .getfield 19, 10, 1, [], .null),
  (4, .getfield 87, 8, 0, [], .null),
  (7, .iload_n 1, 1, 0, [], .null),
  (8, .invokevirtual 156, 22, 0, [], .null),
  (11, .ifCond .eq 37, 21, 0, [], .null),
  (14, .aload_n 0, 0, 0, [], .null),
  (15, .getfield 19, 10, 1, [], .null),
  (18, .getfield 87, 8, 0, [], .null),
  (21, .iload_n 3, 3, 0, [], .null),
  (22, .invokevirtual 156, 22, 0, [], .null),
  (25, .ifCond .eq 23, 21, 0, [], .null),
  (28, .iload_n 1, 1, 0, [], .null),
  (29, .iload_n 3, 3, 0, [], .null),
  (30, .if_icmp .eq 18, 21, 0, [], .null),
  (33, .iload_n 2, 2, 0, [], .null),
  (34, .invokestatic 229, 121, 1, [], .null),
  (37, .ifCond .eq 11, 21, 0, [], .null),
  (40, .iload 4, 4, 0, [], .null),
  (42, .invokestatic 232, 122, 1, [], .null),
  (45, .ifCond .ne 5, 23, 0, [], .null),
  (48, .iconst (-1), 0, 0, [], .int (-1)),
  (49, .ireturn, 0, 0, [], .null),
  (50, .aload_n 0, 0, 0, [], .null),
  (51, .getfield 61, 10, 7, [], .null),
  (54, .aload_n 0, 0, 0, [], .null),
  (55, .invokevirtual 178, 118, 0, [], .null),
  (58, .invokevirtual 182, 42, 0, [], .null),
  (61, .aload_n 0, 0, 0, [], .null),
  (62, .getfield 61, 10, 7, [], .null),
  (65, .iload_n 1, 1, 0, [], .null),
  (66, .iload_n 2, 2, 0, [], .null),
  (67, .iload_n 3, 3, 0, [], .null),
  (68, .invokevirtual 235, 46, 0, [], .null),
  (71, .iload 4, 4, 0, [], .null),
  (73, .invokestatic 239, 123, 1, [], .null),
  (76, .ireturn, 0, 0, [], .null)]
def xm_m105 : xm_M := (11, ⟨"StairNews", "whom", "(IIII)I"⟩, prog_1_method_19_code, 5, (Option.some Jvm.ClassFile.FieldType.int), 4, 0, 0, xm_c105)
def xm_c106 : List xm_E := [(0, .iload_n 1, 1, 0, [], .null),
  (1, .iconst (-1), 0, 0, [], .int (-1)),
  (2, .if_icmp .ne 13, 9, 0, [], .null),
  (5, .aload_n 0, 0, 0, [], .null),
  (6, .getfield 19, 10, 1, [], .null),
  (9, .iconst 0, 0, 0, [], .int 0),
  (10, .putfield 242, 8, 5, [], .null),
  (13, .iconst 0, 0, 0, [], .int 0),
  (14, .ireturn, 0, 0, [], .null),
  (15, .aload_n 0, 0, 0, [], .null),
  (16, .getfield 19, 10, 1, [], .null),
  (19, .getfield 87, 8, 0, [], .null),
  (22, .iload_n 1, 1, 0, [], .null),
  (23, .invokevirtual 102, 23, 0, [], .null),
  (26, .ifCond .eq 17, 21, 0, [], .null),
  (29, .iload_n 2, 2, 0, [], .null),
  (30, .sipush (-1000), 0, 0, [], .int (-1000)),
  (33, .if_icmp .lt 10, 21, 0, [], .null),
  (36, .iload_n 2, 2, 0, [], .null),
  (37, .sipush 999, 0, 0, [], .int 999),
  (40, .if_icmp .le 6, 23, 0, [], .null),
  (43, .bipush (-2), 0, 0, [], .int (-2)),
  (45, .ireturn, 0, 0, [], .null),
  (46, .aload_n 0, 0, 0, [], .null),
  (47, .getfield 19, 10, 1, [], .null),
  (50, .getfield 242, 8, 5, [], .null),
  (53, .bipush 10, 0, 0, [], .int 10),
  (55, .if_icmp .lt 6, 30, 0, [], .null),
  (58, .bipush (-2), 0, 0, [], .int (-2)),
  (60, .ireturn, 0, 0, [], .null),
  (61, .aload_n 0, 0, 0, [], .null),
  (62, .getfield 19, 10, 1, [], .null),
  (65, .getfield 245, 8, 3, [], .null),
  (68, .aload_n 0, 0, 0, [], .null),
  (69, .getfield 19, 10, 1, [], .null),
  (72, .getfield 242, 8, 5, [], .null),
  (75, .iload_n 1, 1, 0, [], .null),
  (76, .iastore, 0, 0, [], .null),
  (77, .aload_n 0, 0, 0, [], .null),
  (78, .getfield 19, 10, 1, [], .null),
  (81, .getfield 248, 8, 4, [], .null),
  (84, .aload_n 0, 0, 0, [], .null),
  (85, .getfield 19, 10, 1, [], .null),
  (88, .getfield 242, 8, 5, [], .null),
  (91, .iload_n 2, 2, 0, [], .null),
  (92, .iastore, 0, 0, [], .null),
  (93, .aload_n 0, 0, 0, [], .null),
  (94, .getfield 19, 10, 1, [], .null),
  (97, .dup, 0, 0, [], .null),
  (98, .getfield 242, 8, 5, [], .null),
  (101, .iconst 1, 0, 0, [], .int 1),
  (102, .iadd, 0, 0, [], .null),
  (103, .putfield 242, 8, 5, [], .null),
  (106, .aload_n 0, 0, 0, [], .null),
  (107, .getfield 19, 10, 1, [], .null),
  (110, .getfield 242, 8, 5, [], .null),
  (113, .ireturn, 0, 0, [], .null)]
def xm_m106 : xm_M := (11, ⟨"StairNews", "news", "(II)I"⟩, prog_1_method_20_code, 3, (Option.some Jvm.ClassFile.FieldType.int), 2, 0, 0, xm_c106)
def xm_c107 : List xm_E := [(0, .aload_n 0, 0, 0, [], .null),
  (1, .getfield 19, 10, 1, [], .null),
  (4, .getfield 87, 8, 0, [], .null),
  (7, .invokevirtual 168, 21, 0, [], .null),
  (10, .ifCond .eq 12, 10, 0, [], .null),
  (13, .iload_n 1, 1, 0, [], .null),
  (14, .ifCond .lt 8, 10, 0, [], .null),
  (17, .iload_n 1, 1, 0, [], .null),
  (18, .iconst 2, 0, 0, [], .int 2),
  (19, .if_icmp .le 5, 12, 0, [], .null),
  (22, .iconst (-1), 0, 0, [], .int (-1)),
  (23, .ireturn, 0, 0, [], .null),
  (24, .aload_n 0, 0, 0, [], .null),
  (25, .getfield 61, 10, 7, [], .null),
  (28, .aload_n 0, 0, 0, [], .null),
  (29, .invokevirtual 178, 118, 0, [], .null),
  (32, .invokevirtual 182, 42, 0, [], .null),
  (35, .aload_n 0, 0, 0, [], .null),
  (36, .getfield 61, 10, 7, [], .null),
  (39, .invokevirtual 251, 50, 0, [], .null),
  (42, .iload_n 1, 1, 0, [], .null),
  (43, .ifCond .ne 11, 26, 0, [], .null),
  (46, .aload_n 0, 0, 0, [], .null),
  (47, .getfield 61, 10, 7, [], .null),
  (50, .getfield 254, 5, 8, [], .null),
  (53, .ireturn, 0, 0, [], .null),
  (54, .aload_n 0, 0, 0, [], .null),
  (55, .getfield 61, 10, 7, [], .null),
  (58, .getfield 254, 5, 8, [], .null),
  (61, .ifCond .ne 6, 32, 0, [], .null),
  (64, .bipush (-2), 0, 0, [], .int (-2)),
  (66, .ireturn, 0, 0, [], .null),
  (67, .iload_n 1, 1, 0, [], .null),
  (68, .iconst 1, 0, 0, [], .int 1),
  (69, .if_icmp .ne 13, 39, 0, [], .null),
  (72, .aload_n 0, 0, 0, [], .null),
  (73, .getfield 61, 10, 7, [], .null),
  (76, .getfield 257, 5, 9, [], .null),
  (79, .goto 10, 42, 0, [], .null),
  (82, .aload_n 0, 0, 0, [], .null),
  (83, .getfield 61, 10, 7, [], .null),
  (86, .getfield 260, 5, 10, [], .null),
  (89, .ireturn, 0, 0, [], .null)]
def xm_m107 : xm_M := (11, ⟨"StairNews", "starts", "(I)I"⟩, prog_1_method_21_code, 2, (Option.some Jvm.ClassFile.FieldType.int), 1, 0, 0, xm_c107)
def xm_c108 : List xm_E := [(0, .aload_n 0, 0, 0, [], .null),
  (1, .getfield 19, 10, 1, [], .null),
  (4, .getfield 87, 8, 0, [], .null),
  (7, .invokevirtual 168, 21, 0, [], .null),
  (10, .ifCond .eq 10, 8, 0, [], .null),
  (13, .iload_n 1, 1, 0, [], .null),
  (14, .invokestatic 232, 122, 1, [], .null),
  (17, .ifCond .ne 5, 10, 0, [], .null),
  (20, .iconst (-1), 0, 0, [], .int (-1)),
  (21, .ireturn, 0, 0, [], .null),
  (22, .aload_n 0, 0, 0, [], .null),
  (23, .getfield 61, 10, 7, [], .null),
  (26, .aload_n 0, 0, 0, [], .null),
  (27, .invokevirtual 178, 118, 0, [], .null),
  (30, .invokevirtual 182, 42, 0, [], .null),
  (33, .aload_n 0, 0, 0, [], .null),
  (34, .getfield 61, 10, 7, [], .null),
  (37, .invokevirtual 251, 50, 0, [], .null),
  (40, .aload_n 0, 0, 0, [], .null),
  (41, .getfield 61, 10, 7, [], .null),
  (44, .getfield 254, 5, 8, [], .null),
  (47, .ifCond .ne 6, 24, 0, [], .null),
  (50, .bipush (-2), 0, 0, [], .int (-2)),
  (52, .ireturn, 0, 0, [], .null),
  (53, .aload_n 0, 0, 0, [], .null),
  (54, .getfield 61, 10, 7, [], .null),
  (57, .invokevirtual 263, 52, 0, [], .null),
  (60, .istore_n 2, 2, 0, [], .null),
  (61, .iload_n 1, 1, 0, [], .null),
  (62, .ifCond .ne 7, 32, 0, [], .null),
  (65, .iload_n 2, 2, 0, [], .null),
  (66, .goto 10, 35, 0, [], .null),
  (69, .aload_n 0, 0, 0, [], .null),
  (70, .getfield 61, 10, 7, [], .null),
  (73, .getfield 266, 5, 11, [], .null),
  (76, .ireturn, 0, 0, [], .null)]
def xm_m108 : xm_M := (11, ⟨"StairNews", "look", "(I)I"⟩, prog_1_method_22_code, 3, (Option.some Jvm.ClassFile.FieldType.int), 1, 0, 0, xm_c108)
def xm_c109 : List xm_E := [(0, .aload_n 0, 0, 0, [], .null),
  (1, .getfield 19, 10, 1, [], .null),
  (4, .getfield 87, 8, 0, [], .null),
  (7, .invokevirtual 168, 21, 0, [], .null),
  (10, .ifCond .eq 17, 11, 0, [], .null),
  (13, .iload_n 1, 1, 0, [], .null),
  (14, .invokestatic 229, 121, 1, [], .null),
  (17, .ifCond .eq 10, 11, 0, [], .null),
  (20, .iload_n 2, 2, 0, [], .null),
  (21, .invokestatic 232, 122, 1, [], .null),
  (24, .ifCond .ne 5, 13, 0, [], .null),
  (27, .iconst (-1), 0, 0, [], .int (-1)),
  (28, .ireturn, 0, 0, [], .null),
  (29, .aload_n 0, 0, 0, [], .null),
  (30, .getfield 61, 10, 7, [], .null),
  (33, .aload_n 0, 0, 0, [], .null),
  (34, .invokevirtual 178, 118, 0, [], .null),
  (37, .invokevirtual 182, 42, 0, [], .null),
  (40, .aload_n 0, 0, 0, [], .null),
  (41, .getfield 61, 10, 7, [], .null),
  (44, .iload_n 1, 1, 0, [], .null),
  (45, .invokevirtual 269, 54, 0, [], .null),
  (48, .istore_n 3, 3, 0, [], .null),
  (49, .iload_n 3, 3, 0, [], .null),
  (50, .bipush (-2), 0, 0, [], .int (-2)),
  (52, .if_icmp .eq 7, 28, 0, [], .null),
  (55, .iload_n 2, 2, 0, [], .null),
  (56, .ifCond .ne 7, 30, 0, [], .null),
  (59, .iload_n 3, 3, 0, [], .null),
  (60, .goto 10, 33, 0, [], .null),
  (63, .aload_n 0, 0, 0, [], .null),
  (64, .getfield 61, 10, 7, [], .null),
  (67, .getfield 272, 5, 12, [], .null),
  (70, .ireturn, 0, 0, [], .null)]
def xm_m109 : xm_M := (11, ⟨"StairNews", "block", "(II)I"⟩, prog_1_method_23_code, 4, (Option.some Jvm.ClassFile.FieldType.int), 2, 0, 0, xm_c109)
def xm_c110 : List xm_E := [(0, .aload_n 0, 0, 0, [], .null),
  (1, .getfield 19, 10, 1, [], .null),
  (4, .getfield 87, 8, 0, [], .null),
  (7, .iload_n 1, 1, 0, [], .null),
  (8, .invokevirtual 102, 23, 0, [], .null),
  (11, .ifCond .eq 17, 12, 0, [], .null),
  (14, .iload_n 2, 2, 0, [], .null),
  (15, .invokestatic 229, 121, 1, [], .null),
  (18, .ifCond .eq 10, 12, 0, [], .null),
  (21, .iload_n 3, 3, 0, [], .null),
  (22, .invokestatic 232, 122, 1, [], .null),
  (25, .ifCond .ne 5, 14, 0, [], .null),
  (28, .iconst (-1), 0, 0, [], .int (-1)),
  (29, .ireturn, 0, 0, [], .null),
  (30, .aload_n 0, 0, 0, [], .null),
  (31, .getfield 61, 10, 7, [], .null),
  (34, .aload_n 0, 0, 0, [], .null),
  (35, .invokevirtual 178, 118, 0, [], .null),
  (38, .invokevirtual 182, 42, 0, [], .null),
  (41, .aload_n 0, 0, 0, [], .null),
  (42, .getfield 61, 10, 7, [], .null),
  (45, .iload_n 1, 1, 0, [], .null),
  (46, .iload_n 2, 2, 0, [], .null),
  (47, .invokevirtual 275, 47, 0, [], .null),
  (50, .iload_n 3, 3, 0, [], .null),
  (51, .invokestatic 239, 123, 1, [], .null),
  (54, .ireturn, 0, 0, [], .null)]
def xm_m110 : xm_M := (11, ⟨"StairNews", "silence", "(III)I"⟩, prog_1_method_24_code, 4, (Option.some Jvm.ClassFile.FieldType.int), 3, 0, 0, xm_c110)
def xm_c111 : List xm_E := [(0, .aload_n 0, 0, 0, [], .null),
  (1, .getfield 19, 10, 1, [], .null),
  (4, .getfield 87, 8, 0, [], .null),
  (7, .invokevirtual 168, 21, 0, [], .null),
  (10, .ifCond .eq 10, 8, 0, [], .null),
  (13, .iload_n 1, 1, 0, [], .null),
  (14, .invokestatic 232, 122, 1, [], .null),
  (17, .ifCond .ne 5, 10, 0, [], .null),
  (20, .iconst (-1), 0, 0, [], .int (-1)),
  (21, .ireturn, 0, 0, [], .null),
  (22, .iconst 0, 0, 0, [], .int 0),
  (23, .istore_n 2, 2, 0, [], .null),
  (24, .iconst 1, 0, 0, [], .int 1),
  (25, .istore_n 3, 3, 0, [], .null),
  (26, .iload_n 3, 3, 0, [], .null),
  (27, .aload_n 0, 0, 0, [], .null),
  (28, .getfield 19, 10, 1, [], .null),
  (31, .getfield 87, 8, 0, [], .null),
  (34, .getfield 278, 3, 0, [], .null),
  (37, .if_icmp .ge 24, 31, 0, [], .null),
  (40, .aload_n 0, 0, 0, [], .null),
  (41, .iload_n 3, 3, 0, [], .null),
  (42, .invokevirtual 281, 119, 0, [], .null),
  (45, .aload_n 0, 0, 0, [], .null),
  (46, .iload_n 2, 2, 0, [], .null),
  (47, .invokevirtual 281, 119, 0, [], .null),
  (50, .if_icmp .ge 5, 29, 0, [], .null),
  (53, .iload_n 3, 3, 0, [], .null),
  (54, .istore_n 2, 2, 0, [], .null),
  (55, .iinc 3 1, 3, 0, [], .int 1),
  (58, .goto (-32), 14, 0, [], .null),
  (61, .iload_n 1, 1, 0, [], .null),
  (62, .ifCond .ne 7, 35, 0, [], .null),
  (65, .iload_n 2, 2, 0, [], .null),
  (66, .goto 8, 38, 0, [], .null),
  (69, .aload_n 0, 0, 0, [], .null),
  (70, .iload_n 2, 2, 0, [], .null),
  (71, .invokevirtual 281, 119, 0, [], .null),
  (74, .ireturn, 0, 0, [], .null)]
def xm_m111 : xm_M := (11, ⟨"StairNews", "meeting", "(I)I"⟩, prog_1_method_25_code, 4, (Option.some Jvm.ClassFile.FieldType.int), 1, 0, 0, xm_c111)
end
section
def xm_c112 : List xm_E := [(0, .aload_n 0, 0, 0, [], .null),
  (1, .getfield 19, 10, 1, [], .null),
  (4, .getfield 87, 8, 0, [], .null),
  (7, .iload_n 1, 1, 0, [], .null),
  (8, .invokevirtual 102, 23, 0, [], .null),
  (11, .ifCond .eq 20, 14, 0, [], .null),
  (14, .aload_n 0, 0, 0, [], .null),
  (15, .getfield 19, 10, 1, [], .null),
  (18, .getfield 106, 8, 1, [], .null),
  (21, .getfield 122, 0, 5, [], .null),
  (24, .iload_n 1, 1, 0, [], .null),
  (25, .iaload, 0, 0, [], .null),
  (26, .bipush 9, 0, 0, [], .int 9),
  (28, .if_icmp .lt 7, 16, 0, [], .null),
  (31, .sipush (-1000), 0, 0, [], .int (-1000)),
  (34, .ireturn, 0, 0, [], .null),
  (35, .aload_n 0, 0, 0, [], .null),
  (36, .getfield 61, 10, 7, [], .null),
  (39, .aload_n 0, 0, 0, [], .null),
  (40, .invokevirtual 178, 118, 0, [], .null),
  (43, .invokevirtual 182, 42, 0, [], .null),
  (46, .aload_n 0, 0, 0, [], .null),
  (47, .getfield 61, 10, 7, [], .null),
  (50, .invokevirtual 284, 55, 0, [], .null),
  (53, .istore_n 2, 2, 0, [], .null),
  (54, .aload_n 0, 0, 0, [], .null),
  (55, .getfield 61, 10, 7, [], .null),
  (58, .aload_n 0, 0, 0, [], .null),
  (59, .invokevirtual 178, 118, 0, [], .null),
  (62, .invokevirtual 182, 42, 0, [], .null),
  (65, .aload_n 0, 0, 0, [], .null),
  (66, .getfield 61, 10, 7, [], .null),
  (69, .getfield 228, 5, 2, [], .null),
  (72, .getfield 122, 0, 5, [], .null),
  (75, .iload_n 1, 1, 0, [], .null),
  (76, .dup2, 0, 0, [], .null),
  (77, .iaload, 0, 0, [], .null),
  (78, .iconst 1, 0, 0, [], .int 1),
  (79, .iadd, 0, 0, [], .null),
  (80, .iastore, 0, 0, [], .null),
  (81, .aload_n 0, 0, 0, [], .null),
  (82, .getfield 61, 10, 7, [], .null),
  (85, .invokevirtual 284, 55, 0, [], .null),
  (88, .istore_n 3, 3, 0, [], .null),
  (89, .iload_n 2, 2, 0, [], .null),
  (90, .iconst (-1), 0, 0, [], .int (-1)),
  (91, .if_icmp .eq 8, 50, 0, [], .null),
  (94, .iload_n 3, 3, 0, [], .null),
  (95, .iconst (-1), 0, 0, [], .int (-1)),
  (96, .if_icmp .ne 9, 52, 0, [], .null),
  (99, .sipush (-1000), 0, 0, [], .int (-1000)),
  (102, .goto 6, 55, 0, [], .null),
  (105, .iload_n 3, 3, 0, [], .null),
  (106, .iload_n 2, 2, 0, [], .null),
  (107, .isub, 0, 0, [], .null),
  (108, .ireturn, 0, 0, [], .null)]
def xm_m112 : xm_M := (11, ⟨"StairNews", "cost", "(I)I"⟩, prog_1_method_26_code, 4, (Option.some Jvm.ClassFile.FieldType.int), 1, 0, 0, xm_c112)
def xm_c113 : List xm_E := [(0, .iload_n 1, 1, 0, [], .null),
  (1, .ifCond .ge 5, 4, 0, [], .null),
  (4, .iconst (-1), 0, 0, [], .int (-1)),
  (5, .ireturn, 0, 0, [], .null),
  (6, .aload_n 0, 0, 0, [], .null),
  (7, .getfield 19, 10, 1, [], .null),
  (10, .getfield 287, 8, 7, [], .null),
  (13, .istore_n 2, 2, 0, [], .null),
  (14, .aload_n 0, 0, 0, [], .null),
  (15, .getfield 19, 10, 1, [], .null),
  (18, .iload_n 1, 1, 0, [], .null),
  (19, .putfield 287, 8, 7, [], .null),
  (22, .iload_n 2, 2, 0, [], .null),
  (23, .ireturn, 0, 0, [], .null)]
def xm_m113 : xm_M := (11, ⟨"StairNews", "seed", "(I)I"⟩, prog_1_method_27_code, 3, (Option.some Jvm.ClassFile.FieldType.int), 1, 0, 0, xm_c113)
def xm_c114 : List xm_E := [(0, .aload_n 0, 0, 0, [], .null),
  (1, .getfield 19, 10, 1, [], .null),
  (4, .getfield 87, 8, 0, [], .null),
  (7, .invokevirtual 168, 21, 0, [], .null),
  (10, .ifCond .eq 28, 17, 0, [], .null),
  (13, .iload_n 1, 1, 0, [], .null),
  (14, .iconst 1, 0, 0, [], .int 1),
  (15, .if_icmp .lt 23, 17, 0, [], .null),
  (18, .iload_n 1, 1, 0, [], .null),
  (19, .bipush 10, 0, 0, [], .int 10),
  (21, .if_icmp .gt 17, 17, 0, [], .null),
  (24, .iload_n 2, 2, 0, [], .null),
  (25, .invokestatic 229, 121, 1, [], .null),
  (28, .ifCond .eq 10, 17, 0, [], .null),
  (31, .iload_n 3, 3, 0, [], .null),
  (32, .invokestatic 232, 122, 1, [], .null),
  (35, .ifCond .ne 7, 19, 0, [], .null),
  (38, .ldc_w 290, 0, 0, [], .int (-1000000)),
  (41, .ireturn, 0, 0, [], .null),
  (42, .aload_n 0, 0, 0, [], .null),
  (43, .getfield 61, 10, 7, [], .null),
  (46, .aload_n 0, 0, 0, [], .null),
  (47, .invokevirtual 178, 118, 0, [], .null),
  (50, .invokevirtual 182, 42, 0, [], .null),
  (53, .aload_n 0, 0, 0, [], .null),
  (54, .getfield 61, 10, 7, [], .null),
  (57, .iload_n 1, 1, 0, [], .null),
  (58, .iload_n 2, 2, 0, [], .null),
  (59, .invokevirtual 291, 56, 0, [], .null),
  (62, .iload_n 3, 3, 0, [], .null),
  (63, .ifCond .ne 16, 36, 0, [], .null),
  (66, .aload_n 0, 0, 0, [], .null),
  (67, .getfield 61, 10, 7, [], .null),
  (70, .getfield 227, 5, 3, [], .null),
  (73, .getfield 196, 4, 0, [], .null),
  (76, .goto 13, 40, 0, [], .null),
  (79, .aload_n 0, 0, 0, [], .null),
  (80, .getfield 61, 10, 7, [], .null),
  (83, .getfield 227, 5, 3, [], .null),
  (86, .invokevirtual 294, 39, 0, [], .null),
  (89, .ireturn, 0, 0, [], .null)]
def xm_m114 : xm_M := (11, ⟨"StairNews", "evenings", "(III)I"⟩, prog_1_method_28_code, 4, (Option.some Jvm.ClassFile.FieldType.int), 3, 0, 0, xm_c114)
def xm_c115 : List xm_E := [(0, .iload_n 1, 1, 0, [], .null),
  (1, .tableswitch 199 0 12 #[67, 78, 89, 100, 105, 113, 124, 135, 156, 164, 172, 180, 188], 64, 0, [2, 7, 12, 17, 20, 24, 29, 34, 43, 47, 51, 55, 59], .null),
  (68, .aload_n 0, 0, 0, [], .null),
  (69, .getfield 19, 10, 1, [], .null),
  (72, .getfield 87, 8, 0, [], .null),
  (75, .getfield 278, 3, 0, [], .null),
  (78, .ireturn, 0, 0, [], .null),
  (79, .aload_n 0, 0, 0, [], .null),
  (80, .getfield 19, 10, 1, [], .null),
  (83, .getfield 87, 8, 0, [], .null),
  (86, .getfield 90, 3, 1, [], .null),
  (89, .ireturn, 0, 0, [], .null),
  (90, .aload_n 0, 0, 0, [], .null),
  (91, .getfield 19, 10, 1, [], .null),
  (94, .getfield 87, 8, 0, [], .null),
  (97, .getfield 297, 3, 2, [], .null),
  (100, .ireturn, 0, 0, [], .null),
  (101, .aload_n 0, 0, 0, [], .null),
  (102, .getfield 93, 10, 8, [], .null),
  (105, .ireturn, 0, 0, [], .null),
  (106, .aload_n 0, 0, 0, [], .null),
  (107, .getfield 19, 10, 1, [], .null),
  (110, .getfield 99, 8, 6, [], .null),
  (113, .ireturn, 0, 0, [], .null),
  (114, .aload_n 0, 0, 0, [], .null),
  (115, .getfield 19, 10, 1, [], .null),
  (118, .getfield 106, 8, 1, [], .null),
  (121, .getfield 172, 0, 0, [], .null),
  (124, .ireturn, 0, 0, [], .null),
  (125, .aload_n 0, 0, 0, [], .null),
  (126, .getfield 19, 10, 1, [], .null),
  (129, .getfield 141, 8, 2, [], .null),
  (132, .getfield 196, 4, 0, [], .null),
  (135, .ireturn, 0, 0, [], .null),
  (136, .aload_n 0, 0, 0, [], .null),
  (137, .getfield 19, 10, 1, [], .null),
  (140, .getfield 106, 8, 1, [], .null),
  (143, .aload_n 0, 0, 0, [], .null),
  (144, .getfield 19, 10, 1, [], .null),
  (147, .getfield 87, 8, 0, [], .null),
  (150, .getfield 90, 3, 1, [], .null),
  (153, .invokevirtual 300, 6, 0, [], .null),
  (156, .ireturn, 0, 0, [], .null),
  (157, .aload_n 0, 0, 0, [], .null),
  (158, .getfield 19, 10, 1, [], .null),
  (161, .getfield 242, 8, 5, [], .null),
  (164, .ireturn, 0, 0, [], .null),
  (165, .aload_n 0, 0, 0, [], .null),
  (166, .getfield 48, 10, 5, [], .null),
  (169, .getfield 215, 2, 3, [], .null),
  (172, .ireturn, 0, 0, [], .null),
  (173, .aload_n 0, 0, 0, [], .null),
  (174, .getfield 19, 10, 1, [], .null),
  (177, .getfield 287, 8, 7, [], .null),
  (180, .ireturn, 0, 0, [], .null),
  (181, .aload_n 0, 0, 0, [], .null),
  (182, .getfield 12, 10, 0, [], .null),
  (185, .getfield 66, 9, 1, [], .null),
  (188, .ireturn, 0, 0, [], .null),
  (189, .aload_n 0, 0, 0, [], .null),
  (190, .getfield 19, 10, 1, [], .null),
  (193, .getfield 87, 8, 0, [], .null),
  (196, .getfield 303, 3, 7, [], .null),
  (199, .ireturn, 0, 0, [], .null),
  (200, .iconst (-1), 0, 0, [], .int (-1)),
  (201, .ireturn, 0, 0, [], .null)]
def xm_m115 : xm_M := (11, ⟨"StairNews", "count", "(I)I"⟩, prog_1_method_29_code, 2, (Option.some Jvm.ClassFile.FieldType.int), 1, 0, 0, xm_c115)
def xm_c116 : List xm_E := [(0, .iload_n 1, 1, 0, [], .null),
  (1, .ifCond .lt 8, 5, 0, [], .null),
  (4, .iload_n 1, 1, 0, [], .null),
  (5, .iconst 4, 0, 0, [], .int 4),
  (6, .if_icmp .lt 5, 7, 0, [], .null),
  (9, .iconst (-1), 0, 0, [], .int (-1)),
  (10, .ireturn, 0, 0, [], .null),
  (11, .aload_n 0, 0, 0, [], .null),
  (12, .getfield 52, 10, 6, [], .null),
  (15, .iload_n 1, 1, 0, [], .null),
  (16, .aaload, 0, 0, [], .null),
  (17, .aload_n 0, 0, 0, [], .null),
  (18, .getfield 19, 10, 1, [], .null),
  (21, .invokevirtual 306, 76, 0, [], .null),
  (24, .aload_n 0, 0, 0, [], .null),
  (25, .getfield 52, 10, 6, [], .null),
  (28, .iload_n 1, 1, 0, [], .null),
  (29, .aaload, 0, 0, [], .null),
  (30, .iconst 1, 0, 0, [], .int 1),
  (31, .putfield 309, 8, 8, [], .null),
  (34, .aload_n 0, 0, 0, [], .null),
  (35, .getfield 19, 10, 1, [], .null),
  (38, .getfield 106, 8, 1, [], .null),
  (41, .getfield 172, 0, 0, [], .null),
  (44, .ireturn, 0, 0, [], .null)]
def xm_m116 : xm_M := (11, ⟨"StairNews", "image", "(I)I"⟩, prog_1_method_30_code, 2, (Option.some Jvm.ClassFile.FieldType.int), 1, 0, 0, xm_c116)
def xm_c117 : List xm_E := [(0, .iload_n 1, 1, 0, [], .null),
  (1, .ifCond .lt 20, 11, 0, [], .null),
  (4, .iload_n 1, 1, 0, [], .null),
  (5, .iconst 4, 0, 0, [], .int 4),
  (6, .if_icmp .ge 15, 11, 0, [], .null),
  (9, .aload_n 0, 0, 0, [], .null),
  (10, .getfield 52, 10, 6, [], .null),
  (13, .iload_n 1, 1, 0, [], .null),
  (14, .aaload, 0, 0, [], .null),
  (15, .getfield 309, 8, 8, [], .null),
  (18, .ifCond .ne 5, 13, 0, [], .null),
  (21, .iconst (-1), 0, 0, [], .int (-1)),
  (22, .ireturn, 0, 0, [], .null),
  (23, .aload_n 0, 0, 0, [], .null),
  (24, .getfield 19, 10, 1, [], .null),
  (27, .aload_n 0, 0, 0, [], .null),
  (28, .getfield 52, 10, 6, [], .null),
  (31, .iload_n 1, 1, 0, [], .null),
  (32, .aaload, 0, 0, [], .null),
  (33, .invokevirtual 306, 76, 0, [], .null),
  (36, .aload_n 0, 0, 0, [], .null),
  (37, .getfield 48, 10, 5, [], .null),
  (40, .invokevirtual 84, 19, 0, [], .null),
  (43, .aload_n 0, 0, 0, [], .null),
  (44, .getfield 19, 10, 1, [], .null),
  (47, .getfield 106, 8, 1, [], .null),
  (50, .getfield 172, 0, 0, [], .null),
  (53, .ireturn, 0, 0, [], .null)]
def xm_m117 : xm_M := (11, ⟨"StairNews", "back", "(I)I"⟩, prog_1_method_31_code, 2, (Option.some Jvm.ClassFile.FieldType.int), 1, 0, 0, xm_c117)
def xm_c118 : List xm_E := [(0, .aload_n 0, 0, 0, [], .null),
  (1, .getfield 19, 10, 1, [], .null),
  (4, .getfield 99, 8, 6, [], .null),
  (7, .istore_n 1, 1, 0, [], .null),
  (8, .iload_n 1, 1, 0, [], .null),
  (9, .ifCond .lt 20, 15, 0, [], .null),
  (12, .iload_n 1, 1, 0, [], .null),
  (13, .aload_n 0, 0, 0, [], .null),
  (14, .getfield 93, 10, 8, [], .null),
  (17, .if_icmp .ge 12, 15, 0, [], .null),
  (20, .aload_n 0, 0, 0, [], .null),
  (21, .getfield 32, 10, 3, [], .null),
  (24, .iload_n 1, 1, 0, [], .null),
  (25, .aaload, 0, 0, [], .null),
  (26, .goto 4, 16, 0, [], .null),
  (29, .aconst_null, 0, 0, [], .null),
  (30, .areturn, 0, 0, [], .null)]
def xm_m118 : xm_M := (11, ⟨"StairNews", "ruleInForce", "()LStairNews$Rule;"⟩, prog_1_method_32_code, 2, (Option.some (Jvm.ClassFile.FieldType.object "StairNews$Rule")), 0, 0, 0, xm_c118)
def xm_c119 : List xm_E := [(0, .iconst 0, 0, 0, [], .int 0),
  (1, .istore_n 2, 2, 0, [], .null),
  (2, .iconst 0, 0, 0, [], .int 0),
  (3, .istore_n 3, 3, 0, [], .null),
  (4, .iload_n 3, 3, 0, [], .null),
  (5, .aload_n 0, 0, 0, [], .null),
  (6, .getfield 19, 10, 1, [], .null),
  (9, .getfield 87, 8, 0, [], .null),
  (12, .getfield 90, 3, 1, [], .null),
  (15, .if_icmp .ge 29, 24, 0, [], .null),
  (18, .iload_n 2, 2, 0, [], .null),
  (19, .aload_n 0, 0, 0, [], .null),
  (20, .getfield 19, 10, 1, [], .null),
  (23, .getfield 106, 8, 1, [], .null),
  (26, .getfield 110, 0, 2, [], .null),
  (29, .iload_n 3, 3, 0, [], .null),
  (30, .iaload, 0, 0, [], .null),
  (31, .iload_n 1, 1, 0, [], .null),
  (32, .isub, 0, 0, [], .null),
  (33, .invokestatic 210, 1002, 0, [], .null),
  (36, .iadd, 0, 0, [], .null),
  (37, .istore_n 2, 2, 0, [], .null),
  (38, .iinc 3 1, 3, 0, [], .int 1),
  (41, .goto (-37), 4, 0, [], .null),
  (44, .iload_n 2, 2, 0, [], .null),
  (45, .ireturn, 0, 0, [], .null)]
def xm_m119 : xm_M := (11, ⟨"StairNews", "flightsTo", "(I)I"⟩, prog_1_method_33_code, 4, (Option.some Jvm.ClassFile.FieldType.int), 1, 0, 0, xm_c119)
def xm_c120 : List xm_E := [(0, .iload_n 0, 0, 0, [], .null),
  (1, .iload_n 1, 1, 0, [], .null),
  (2, .ishr, 0, 0, [], .null),
  (3, .iconst 1, 0, 0, [], .int 1),
  (4, .iand, 0, 0, [], .null),
  (5, .ireturn, 0, 0, [], .null)]
def xm_m120 : xm_M := (11, ⟨"StairNews", "bit", "(II)I"⟩, prog_1_method_34_code, 2, (Option.some Jvm.ClassFile.FieldType.int), 2, 0, 0, xm_c120)
def xm_c121 : List xm_E := [(0, .iload_n 0, 0, 0, [], .null),
  (1, .iconst 1, 0, 0, [], .int 1),
  (2, .if_icmp .lt 13, 8, 0, [], .null),
  (5, .iload_n 0, 0, 0, [], .null),
  (6, .bipush 60, 0, 0, [], .int 60),
  (8, .if_icmp .gt 7, 8, 0, [], .null),
  (11, .iconst 1, 0, 0, [], .int 1),
  (12, .goto 4, 9, 0, [], .null),
  (15, .iconst 0, 0, 0, [], .int 0),
  (16, .ireturn, 0, 0, [], .null)]
def xm_m121 : xm_M := (11, ⟨"StairNews", "isPlanned", "(I)Z"⟩, prog_1_method_35_code, 1, (Option.some Jvm.ClassFile.FieldType.boolean), 1, 0, 0, xm_c121)
def xm_c122 : List xm_E := [(0, .iload_n 0, 0, 0, [], .null),
  (1, .ifCond .eq 8, 5, 0, [], .null),
  (4, .iload_n 0, 0, 0, [], .null),
  (5, .iconst 1, 0, 0, [], .int 1),
  (6, .if_icmp .ne 7, 7, 0, [], .null),
  (9, .iconst 1, 0, 0, [], .int 1),
  (10, .goto 4, 8, 0, [], .null),
  (13, .iconst 0, 0, 0, [], .int 0),
  (14, .ireturn, 0, 0, [], .null)]
def xm_m122 : xm_M := (11, ⟨"StairNews", "isEither", "(I)Z"⟩, prog_1_method_36_code, 1, (Option.some Jvm.ClassFile.FieldType.boolean), 1, 0, 0, xm_c122)
def xm_c123 : List xm_E := [(0, .iload_n 0, 0, 0, [], .null),
  (1, .bipush (-2), 0, 0, [], .int (-2)),
  (3, .if_icmp .ne 6, 5, 0, [], .null),
  (6, .bipush (-2), 0, 0, [], .int (-2)),
  (8, .ireturn, 0, 0, [], .null),
  (9, .iload_n 1, 1, 0, [], .null),
  (10, .ifCond .ne 10, 10, 0, [], .null),
  (13, .iload_n 0, 0, 0, [], .null),
  (14, .invokestatic 190, 239, 1, [], .null),
  (17, .goto 4, 11, 0, [], .null),
  (20, .iload_n 0, 0, 0, [], .null),
  (21, .ireturn, 0, 0, [], .null)]
def xm_m123 : xm_M := (11, ⟨"StairNews", "sizeOrSet", "(II)I"⟩, prog_1_method_37_code, 2, (Option.some Jvm.ClassFile.FieldType.int), 2, 0, 0, xm_c123)
def xm_c124 : List xm_E := [(0, .aload_n 0, 0, 0, [], .null),
  (1, .invokespecial 1, 1000, 0, [], .null),
  (4, .aload_n 0, 0, 0, [], .null),
  (5, .sipush 400, 0, 0, [], .int 400),
  (8, .newarray .byte, 101, 0, [], .null),
  (10, .putfield 7, 11, 0, [], .null),
  (13, .aload_n 0, 0, 0, [], .null),
  (14, .sipush 2400, 0, 0, [], .int 2400),
  (17, .newarray .int, 100, 0, [], .null),
  (19, .putfield 13, 11, 3, [], .null),
  (22, .aload_n 0, 0, 0, [], .null),
  (23, .bipush 7, 0, 0, [], .int 7),
  (25, .newarray .int, 100, 0, [], .null),
  (27, .putfield 17, 11, 4, [], .null),
  (30, .aload_n 0, 0, 0, [], .null),
  (31, .sipush 288, 0, 0, [], .int 288),
  (34, .newarray .int, 100, 0, [], .null),
  (36, .putfield 20, 11, 5, [], .null),
  (39, .aload_n 0, 0, 0, [], .null),
  (40, .bipush 6, 0, 0, [], .int 6),
  (42, .newarray .int, 100, 0, [], .null),
  (44, .putfield 23, 11, 6, [], .null),
  (47, .aload_n 0, 0, 0, [], .null),
  (48, .bipush 117, 0, 0, [], .int 117),
  (50, .newarray .int, 100, 0, [], .null),
  (52, .putfield 26, 11, 7, [], .null),
  (55, .aload_n 0, 0, 0, [], .null),
  (56, .sipush 400, 0, 0, [], .int 400),
  (59, .newarray .int, 100, 0, [], .null),
  (61, .putfield 29, 11, 15, [], .null),
  (64, .aload_n 0, 0, 0, [], .null),
  (65, .bipush 64, 0, 0, [], .int 64),
  (67, .newarray .long, 102, 0, [], .null),
  (69, .putfield 32, 11, 17, [], .null),
  (72, .aload_n 0, 0, 0, [], .null),
  (73, .bipush 11, 0, 0, [], .int 11),
  (75, .newarray .long, 102, 0, [], .null),
  (77, .putfield 36, 11, 19, [], .null),
  (80, .aload_n 0, 0, 0, [], .null),
  (81, .sipush 146, 0, 0, [], .int 146),
  (84, .newarray .int, 100, 0, [], .null),
  (86, .putfield 39, 11, 20, [], .null),
  (89, .aload_n 0, 0, 0, [], .null),
  (90, .iconst (-1), 0, 0, [], .int (-1)),
  (91, .putfield 42, 11, 21, [], .null),
  (94, .aload_n 0, 0, 0, [], .null),
  (95, .bipush 7, 0, 0, [], .int 7),
  (97, .newarray .int, 100, 0, [], .null),
  (99, .putfield 46, 11, 24, [], .null),
  (102, .aload_n 0, 0, 0, [], .null),
  (103, .sipush 1740, 0, 0, [], .int 1740),
  (106, .newarray .int, 100, 0, [], .null),
  (108, .putfield 49, 11, 25, [], .null),
  (111, .aload_n 0, 0, 0, [], .null),
  (112, .bipush 87, 0, 0, [], .int 87),
  (114, .newarray .int, 100, 0, [], .null),
  (116, .putfield 52, 11, 27, [], .null),
  (119, .aload_n 0, 0, 0, [], .null),
  (120, .sipush 287, 0, 0, [], .int 287),
  (123, .newarray .int, 100, 0, [], .null),
  (125, .putfield 55, 11, 28, [], .null),
  (128, .aload_n 0, 0, 0, [], .null),
  (129, .sipush 2009, 0, 0, [], .int 2009),
  (132, .newarray .int, 100, 0, [], .null),
  (134, .putfield 58, 11, 29, [], .null),
  (137, .aload_n 0, 0, 0, [], .null),
  (138, .sipush 584, 0, 0, [], .int 584),
  (141, .newarray .int, 100, 0, [], .null),
  (143, .putfield 61, 11, 32, [], .null),
  (146, .aload_n 0, 0, 0, [], .null),
  (147, .iconst 4, 0, 0, [], .int 4),
  (148, .newarray .int, 100, 0, [], .null),
  (150, .putfield 64, 11, 33, [], .null),
  (153, .aload_n 0, 0, 0, [], .null),
  (154, .iconst 4, 0, 0, [], .int 4),
  (155, .newarray .int, 100, 0, [], .null),
  (157, .putfield 67, 11, 34, [], .null),
  (160, .aload_n 0, 0, 0, [], .null),
  (161, .iconst 4, 0, 0, [], .int 4),
  (162, .newarray .boolean, 103, 0, [], .null),
  (164, .putfield 70, 11, 35, [], .null),
  (167, .aload_n 0, 0, 0, [], .null),
  (168, .getfield 39, 11, 20, [], .null),
  (171, .iconst 5, 0, 0, [], .int 5),
  (172, .iconst (-1), 0, 0, [], .int (-1)),
  (173, .iastore, 0, 0, [], .null),
  (174, .return_, 0, 0, [], .null)]
def xm_m124 : xm_M := (12, ⟨"StairNewsModel", "<init>", "()V"⟩, prog_14_method_1_code, 1, (Option.none : Option Jvm.ClassFile.FieldType), 0, 30, 12000, xm_c124)
def xm_c125 : List xm_E := [(0, .lload_n 0, 0, 0, [], .null),
  (1, .lload_n 2, 2, 0, [], .null),
  (2, .lcmp, 0, 0, [], .null),
  (3, .ifCond .lt 14, 10, 0, [], .null),
  (6, .lload_n 0, 0, 0, [], .null),
  (7, .lload 4, 4, 0, [], .null),
  (9, .lcmp, 0, 0, [], .null),
  (10, .ifCond .gt 7, 10, 0, [], .null),
  (13, .iconst 1, 0, 0, [], .int 1),
  (14, .goto 4, 11, 0, [], .null),
  (17, .iconst 0, 0, 0, [], .int 0),
  (18, .ireturn, 0, 0, [], .null)]
def xm_m125 : xm_M := (12, ⟨"StairNewsModel", "in", "(JJJ)Z"⟩, prog_14_method_2_code, 6, (Option.some Jvm.ClassFile.FieldType.boolean), 3, 0, 0, xm_c125)
def xm_c126 : List xm_E := [(0, .iload_n 0, 0, 0, [], .null),
  (1, .iload_n 1, 1, 0, [], .null),
  (2, .ishr, 0, 0, [], .null),
  (3, .iconst 1, 0, 0, [], .int 1),
  (4, .iand, 0, 0, [], .null),
  (5, .iconst 1, 0, 0, [], .int 1),
  (6, .if_icmp .ne 7, 9, 0, [], .null),
  (9, .iconst 1, 0, 0, [], .int 1),
  (10, .goto 4, 10, 0, [], .null),
  (13, .iconst 0, 0, 0, [], .int 0),
  (14, .ireturn, 0, 0, [], .null)]
def xm_m126 : xm_M := (12, ⟨"StairNewsModel", "isOf", "(II)Z"⟩, prog_14_method_3_code, 2, (Option.some Jvm.ClassFile.FieldType.boolean), 2, 0, 0, xm_c126)
def xm_c127 : List xm_E := [(0, .iconst 0, 0, 0, [], .int 0),
  (1, .istore_n 1, 1, 0, [], .null),
  (2, .iload_n 0, 0, 0, [], .null),
  (3, .istore_n 2, 2, 0, [], .null),
  (4, .iload_n 2, 2, 0, [], .null),
  (5, .ifCond .eq 15, 14, 0, [], .null),
  (8, .iinc 1 1, 1, 0, [], .int 1),
  (11, .iload_n 2, 2, 0, [], .null),
  (12, .iload_n 2, 2, 0, [], .null),
  (13, .iconst 1, 0, 0, [], .int 1),
  (14, .isub, 0, 0, [], .null),
  (15, .iand, 0, 0, [], .null),
  (16, .istore_n 2, 2, 0, [], .null),
  (17, .goto (-13), 4, 0, [], .null),
  (20, .iload_n 1, 1, 0, [], .null),
  (21, .ireturn, 0, 0, [], .null)]
def xm_m127 : xm_M := (12, ⟨"StairNewsModel", "bits", "(I)I"⟩, prog_14_method_4_code, 3, (Option.some Jvm.ClassFile.FieldType.int), 1, 0, 0, xm_c127)
def xm_c128 : List xm_E := [(0, .bipush 24, 0, 0, [], .int 24),
  (2, .istore_n 2, 2, 0, [], .null),
  (3, .iload_n 2, 2, 0, [], .null),
  (4, .ifCond .lt 32, 21, 0, [], .null),
  (7, .aload_n 0, 0, 0, [], .null),
  (8, .getfield 7, 11, 0, [], .null),
  (11, .aload_n 0, 0, 0, [], .null),
  (12, .getfield 74, 11, 1, [], .null),
  (15, .iload_n 1, 1, 0, [], .null),
  (16, .iload_n 2, 2, 0, [], .null),
  (17, .ishr, 0, 0, [], .null),
  (18, .i2b, 0, 0, [], .null),
  (19, .bastore, 0, 0, [], .null),
  (20, .aload_n 0, 0, 0, [], .null),
  (21, .dup, 0, 0, [], .null),
  (22, .getfield 74, 11, 1, [], .null),
  (25, .iconst 1, 0, 0, [], .int 1),
  (26, .iadd, 0, 0, [], .null),
  (27, .putfield 74, 11, 1, [], .null),
  (30, .iinc 2 (-8), 2, 0, [], .int (-8)),
  (33, .goto (-30), 2, 0, [], .null),
  (36, .return_, 0, 0, [], .null)]
def xm_m128 : xm_M := (12, ⟨"StairNewsModel", "four", "(I)V"⟩, prog_14_method_5_code, 3, (Option.none : Option Jvm.ClassFile.FieldType), 1, 0, 0, xm_c128)
def xm_c129 : List xm_E := [(0, .aload_n 0, 0, 0, [], .null),
  (1, .getfield 74, 11, 1, [], .null),
  (4, .bipush 20, 0, 0, [], .int 20),
  (6, .iadd, 0, 0, [], .null),
  (7, .sipush 400, 0, 0, [], .int 400),
  (10, .if_icmp .le 5, 8, 0, [], .null),
  (13, .iconst (-1), 0, 0, [], .int (-1)),
  (14, .ireturn, 0, 0, [], .null),
  (15, .aload_n 0, 0, 0, [], .null),
  (16, .iload_n 1, 1, 0, [], .null),
  (17, .invokevirtual 77, 128, 0, [], .null),
  (20, .aload_n 0, 0, 0, [], .null),
  (21, .iload_n 2, 2, 0, [], .null),
  (22, .invokevirtual 77, 128, 0, [], .null),
  (25, .aload_n 0, 0, 0, [], .null),
  (26, .iload_n 3, 3, 0, [], .null),
  (27, .invokevirtual 77, 128, 0, [], .null),
  (30, .aload_n 0, 0, 0, [], .null),
  (31, .iload 4, 4, 0, [], .null),
  (33, .invokevirtual 77, 128, 0, [], .null),
  (36, .aload_n 0, 0, 0, [], .null),
  (37, .iload 5, 5, 0, [], .null),
  (39, .invokevirtual 77, 128, 0, [], .null),
  (42, .aload_n 0, 0, 0, [], .null),
  (43, .getfield 74, 11, 1, [], .null),
  (46, .ireturn, 0, 0, [], .null)]
def xm_m129 : xm_M := (12, ⟨"StairNewsModel", "feed", "(IIIII)I"⟩, prog_14_method_6_code, 6, (Option.some Jvm.ClassFile.FieldType.int), 5, 0, 0, xm_c129)
def xm_c130 : List xm_E := [(0, .iload_n 1, 1, 0, [], .null),
  (1, .ifCond .lt 11, 6, 0, [], .null),
  (4, .iload_n 1, 1, 0, [], .null),
  (5, .aload_n 0, 0, 0, [], .null),
  (6, .getfield 74, 11, 1, [], .null),
  (9, .if_icmp .le 5, 8, 0, [], .null),
  (12, .iconst (-1), 0, 0, [], .int (-1)),
  (13, .ireturn, 0, 0, [], .null),
  (14, .aload_n 0, 0, 0, [], .null),
  (15, .iload_n 1, 1, 0, [], .null),
  (16, .putfield 74, 11, 1, [], .null),
  (19, .iload_n 1, 1, 0, [], .null),
  (20, .ireturn, 0, 0, [], .null)]
def xm_m130 : xm_M := (12, ⟨"StairNewsModel", "end", "(I)I"⟩, prog_14_method_7_code, 2, (Option.some Jvm.ClassFile.FieldType.int), 1, 0, 0, xm_c130)
def xm_c131 : List xm_E := [(0, .aload_n 0, 0, 0, [], .null),
  (1, .getfield 81, 11, 9, [], .null),
  (4, .ifCond .ne 15, 12, 0, [], .null),
  (7, .aload_n 0, 0, 0, [], .null),
  (8, .iconst 1, 0, 0, [], .int 1),
  (9, .bipush 8, 0, 0, [], .int 8),
  (11, .iload_n 2, 2, 0, [], .null),
  (12, .imul, 0, 0, [], .null),
  (13, .iadd, 0, 0, [], .null),
  (14, .iload_n 1, 1, 0, [], .null),
  (15, .iadd, 0, 0, [], .null),
  (16, .putfield 81, 11, 9, [], .null),
  (19, .iconst 0, 0, 0, [], .int 0),
  (20, .ireturn, 0, 0, [], .null)]
def xm_m131 : xm_M := (12, ⟨"StairNewsModel", "fails", "(II)Z"⟩, prog_14_method_8_code, 3, (Option.some Jvm.ClassFile.FieldType.boolean), 2, 0, 0, xm_c131)
def xm_c132 : List xm_E := [(0, .aload_n 0, 0, 0, [], .null),
  (1, .getfield 84, 11, 8, [], .null),
  (4, .aload_n 0, 0, 0, [], .null),
  (5, .getfield 74, 11, 1, [], .null),
  (8, .if_icmp .ge 30, 19, 0, [], .null),
  (11, .aload_n 0, 0, 0, [], .null),
  (12, .getfield 7, 11, 0, [], .null),
  (15, .aload_n 0, 0, 0, [], .null),
  (16, .getfield 84, 11, 8, [], .null),
  (19, .baload, 0, 0, [], .null),
  (20, .bipush 32, 0, 0, [], .int 32),
  (22, .if_icmp .ne 16, 19, 0, [], .null),
  (25, .aload_n 0, 0, 0, [], .null),
  (26, .dup, 0, 0, [], .null),
  (27, .getfield 84, 11, 8, [], .null),
  (30, .iconst 1, 0, 0, [], .int 1),
  (31, .iadd, 0, 0, [], .null),
  (32, .putfield 84, 11, 8, [], .null),
  (35, .goto (-35), 0, 0, [], .null),
  (38, .aload_n 0, 0, 0, [], .null),
  (39, .getfield 84, 11, 8, [], .null),
  (42, .aload_n 0, 0, 0, [], .null),
  (43, .getfield 74, 11, 1, [], .null),
  (46, .if_icmp .ge 19, 32, 0, [], .null),
  (49, .aload_n 0, 0, 0, [], .null),
  (50, .getfield 7, 11, 0, [], .null),
  (53, .aload_n 0, 0, 0, [], .null),
  (54, .getfield 84, 11, 8, [], .null),
  (57, .baload, 0, 0, [], .null),
  (58, .sipush 255, 0, 0, [], .int 255),
  (61, .iand, 0, 0, [], .null),
  (62, .goto 4, 33, 0, [], .null),
  (65, .iconst (-1), 0, 0, [], .int (-1)),
  (66, .ireturn, 0, 0, [], .null)]
def xm_m132 : xm_M := (12, ⟨"StairNewsModel", "see", "()I"⟩, prog_14_method_9_code, 1, (Option.some Jvm.ClassFile.FieldType.int), 0, 0, 0, xm_c132)
def xm_c133 : List xm_E := [(0, .iload_n 1, 1, 0, [], .null),
  (1, .aload_n 0, 0, 0, [], .null),
  (2, .getfield 74, 11, 1, [], .null),
  (5, .if_icmp .ge 29, 18, 0, [], .null),
  (8, .aload_n 0, 0, 0, [], .null),
  (9, .getfield 7, 11, 0, [], .null),
  (12, .iload_n 1, 1, 0, [], .null),
  (13, .baload, 0, 0, [], .null),
  (14, .bipush 48, 0, 0, [], .int 48),
  (16, .if_icmp .lt 18, 18, 0, [], .null),
  (19, .aload_n 0, 0, 0, [], .null),
  (20, .getfield 7, 11, 0, [], .null),
  (23, .iload_n 1, 1, 0, [], .null),
  (24, .baload, 0, 0, [], .null),
  (25, .bipush 57, 0, 0, [], .int 57),
  (27, .if_icmp .gt 7, 18, 0, [], .null),
  (30, .iconst 1, 0, 0, [], .int 1),
  (31, .goto 4, 19, 0, [], .null),
  (34, .iconst 0, 0, 0, [], .int 0),
  (35, .ireturn, 0, 0, [], .null)]
def xm_m133 : xm_M := (12, ⟨"StairNewsModel", "isDigit", "(I)Z"⟩, prog_14_method_10_code, 2, (Option.some Jvm.ClassFile.FieldType.boolean), 1, 0, 0, xm_c133)
def xm_c134 : List xm_E := [(0, .iload_n 1, 1, 0, [], .null),
  (1, .aload_n 0, 0, 0, [], .null),
  (2, .getfield 74, 11, 1, [], .null),
  (5, .if_icmp .ge 29, 18, 0, [], .null),
  (8, .aload_n 0, 0, 0, [], .null),
  (9, .getfield 7, 11, 0, [], .null),
  (12, .iload_n 1, 1, 0, [], .null),
  (13, .baload, 0, 0, [], .null),
  (14, .bipush 97, 0, 0, [], .int 97),
  (16, .if_icmp .lt 18, 18, 0, [], .null),
  (19, .aload_n 0, 0, 0, [], .null),
  (20, .getfield 7, 11, 0, [], .null),
  (23, .iload_n 1, 1, 0, [], .null),
  (24, .baload, 0, 0, [], .null),
  (25, .bipush 122, 0, 0, [], .int 122),
  (27, .if_icmp .gt 7, 18, 0, [], .null),
  (30, .iconst 1, 0, 0, [], .int 1),
  (31, .goto 4, 19, 0, [], .null),
  (34, .iconst 0, 0, 0, [], .int 0),
  (35, .ireturn, 0, 0, [], .null)]
def xm_m134 : xm_M := (12, ⟨"StairNewsModel", "isLetter", "(I)Z"⟩, prog_14_method_11_code, 2, (Option.some Jvm.ClassFile.FieldType.boolean), 1, 0, 0, xm_c134)
def xm_c135 : List xm_E := [(0, .aload_n 0, 0, 0, [], .null),
  (1, .invokevirtual 87, 132, 0, [], .null),
  (4, .pop, 0, 0, [], .null),
  (5, .lconst 0, 0, 0, [], .long 0),
  (6, .lstore_n 3, 3, 0, [], .null),
  (7, .iconst 0, 0, 0, [], .int 0),
  (8, .istore 5, 5, 0, [], .null),
  (10, .aload_n 0, 0, 0, [], .null),
  (11, .aload_n 0, 0, 0, [], .null),
  (12, .getfield 84, 11, 8, [], .null),
  (15, .iload 5, 5, 0, [], .null),
  (17, .iadd, 0, 0, [], .null),
  (18, .invokevirtual 91, 134, 0, [], .null),
  (21, .ifCond .eq 35, 32, 0, [], .null),
  (24, .iload 5, 5, 0, [], .null),
  (26, .bipush 8, 0, 0, [], .int 8),
  (28, .if_icmp .ge 22, 30, 0, [], .null),
  (31, .lload_n 3, 3, 0, [], .null),
  (32, .bipush 8, 0, 0, [], .int 8),
  (34, .lshl, 0, 0, [], .null),
  (35, .aload_n 0, 0, 0, [], .null),
  (36, .getfield 7, 11, 0, [], .null),
  (39, .aload_n 0, 0, 0, [], .null),
  (40, .getfield 84, 11, 8, [], .null),
  (43, .iload 5, 5, 0, [], .null),
  (45, .iadd, 0, 0, [], .null),
  (46, .baload, 0, 0, [], .null),
  (47, .i2l, 0, 0, [], .null),
  (48, .lor, 0, 0, [], .null),
  (49, .lstore_n 3, 3, 0, [], .null),
  (50, .iinc 5 1, 5, 0, [], .int 1),
  (53, .goto (-43), 7, 0, [], .null),
  (56, .iload 5, 5, 0, [], .null),
  (58, .ifCond .le 20, 43, 0, [], .null),
  (61, .iload 5, 5, 0, [], .null),
  (63, .bipush 8, 0, 0, [], .int 8),
  (65, .if_icmp .ge 13, 43, 0, [], .null),
  (68, .lload_n 3, 3, 0, [], .null),
  (69, .lload_n 1, 1, 0, [], .null),
  (70, .lcmp, 0, 0, [], .null),
  (71, .ifCond .ne 7, 43, 0, [], .null),
  (74, .iconst 1, 0, 0, [], .int 1),
  (75, .goto 4, 44, 0, [], .null),
  (78, .iconst 0, 0, 0, [], .int 0),
  (79, .ireturn, 0, 0, [], .null)]
def xm_m135 : xm_M := (12, ⟨"StairNewsModel", "isWord", "(J)Z"⟩, prog_14_method_12_code, 6, (Option.some Jvm.ClassFile.FieldType.boolean), 1, 0, 0, xm_c135)
def xm_c136 : List xm_E := [(0, .aload_n 0, 0, 0, [], .null),
  (1, .aload_n 0, 0, 0, [], .null),
  (2, .getfield 84, 11, 8, [], .null),
  (5, .invokevirtual 91, 134, 0, [], .null),
  (8, .ifCond .eq 16, 12, 0, [], .null),
  (11, .aload_n 0, 0, 0, [], .null),
  (12, .dup, 0, 0, [], .null),
  (13, .getfield 84, 11, 8, [], .null),
  (16, .iconst 1, 0, 0, [], .int 1),
  (17, .iadd, 0, 0, [], .null),
  (18, .putfield 84, 11, 8, [], .null),
  (21, .goto (-21), 0, 0, [], .null),
  (24, .return_, 0, 0, [], .null)]
def xm_m136 : xm_M := (12, ⟨"StairNewsModel", "passWord", "()V"⟩, prog_14_method_13_code, 1, (Option.none : Option Jvm.ClassFile.FieldType), 0, 0, 0, xm_c136)
def xm_c137 : List xm_E := [(0, .aload_n 0, 0, 0, [], .null),
  (1, .lload_n 1, 1, 0, [], .null),
  (2, .invokevirtual 95, 135, 0, [], .null),
  (5, .ifCond .ne 5, 6, 0, [], .null),
  (8, .iconst 0, 0, 0, [], .int 0),
  (9, .ireturn, 0, 0, [], .null),
  (10, .aload_n 0, 0, 0, [], .null),
  (11, .invokevirtual 99, 136, 0, [], .null),
  (14, .iconst 1, 0, 0, [], .int 1),
  (15, .ireturn, 0, 0, [], .null)]
def xm_m137 : xm_M := (12, ⟨"StairNewsModel", "takesWord", "(J)Z"⟩, prog_14_method_14_code, 3, (Option.some Jvm.ClassFile.FieldType.boolean), 1, 0, 0, xm_c137)
def xm_c138 : List xm_E := [(0, .aload_n 0, 0, 0, [], .null),
  (1, .invokevirtual 87, 132, 0, [], .null),
  (4, .pop, 0, 0, [], .null),
  (5, .aload_n 0, 0, 0, [], .null),
  (6, .aload_n 0, 0, 0, [], .null),
  (7, .getfield 84, 11, 8, [], .null),
  (10, .invokevirtual 102, 133, 0, [], .null),
  (13, .ifCond .ne 13, 14, 0, [], .null),
  (16, .aload_n 0, 0, 0, [], .null),
  (17, .iconst 0, 0, 0, [], .int 0),
  (18, .aload_n 0, 0, 0, [], .null),
  (19, .getfield 84, 11, 8, [], .null),
  (22, .invokevirtual 105, 131, 0, [], .null),
  (25, .ireturn, 0, 0, [], .null),
  (26, .aload_n 0, 0, 0, [], .null),
  (27, .getfield 84, 11, 8, [], .null),
  (30, .istore_n 3, 3, 0, [], .null),
  (31, .iconst 0, 0, 0, [], .int 0),
  (32, .istore 4, 4, 0, [], .null),
  (34, .aload_n 0, 0, 0, [], .null),
  (35, .aload_n 0, 0, 0, [], .null),
  (36, .getfield 84, 11, 8, [], .null),
  (39, .invokevirtual 102, 133, 0, [], .null),
  (42, .ifCond .eq 46, 49, 0, [], .null),
  (45, .aload_n 0, 0, 0, [], .null),
  (46, .getfield 84, 11, 8, [], .null),
  (49, .iload_n 3, 3, 0, [], .null),
  (50, .isub, 0, 0, [], .null),
  (51, .iconst 5, 0, 0, [], .int 5),
  (52, .if_icmp .ge 23, 42, 0, [], .null),
  (55, .bipush 10, 0, 0, [], .int 10),
  (57, .iload 4, 4, 0, [], .null),
  (59, .imul, 0, 0, [], .null),
  (60, .aload_n 0, 0, 0, [], .null),
  (61, .getfield 7, 11, 0, [], .null),
  (64, .aload_n 0, 0, 0, [], .null),
  (65, .getfield 84, 11, 8, [], .null),
  (68, .baload, 0, 0, [], .null),
  (69, .iadd, 0, 0, [], .null),
  (70, .bipush 48, 0, 0, [], .int 48),
  (72, .isub, 0, 0, [], .null),
  (73, .istore 4, 4, 0, [], .null),
  (75, .aload_n 0, 0, 0, [], .null),
  (76, .dup, 0, 0, [], .null),
  (77, .getfield 84, 11, 8, [], .null),
  (80, .iconst 1, 0, 0, [], .int 1),
  (81, .iadd, 0, 0, [], .null),
  (82, .putfield 84, 11, 8, [], .null),
  (85, .goto (-51), 19, 0, [], .null),
  (88, .aload_n 0, 0, 0, [], .null),
  (89, .iload 4, 4, 0, [], .null),
  (91, .putfield 109, 11, 10, [], .null),
  (94, .aload_n 0, 0, 0, [], .null),
  (95, .getfield 84, 11, 8, [], .null),
  (98, .iload_n 3, 3, 0, [], .null),
  (99, .isub, 0, 0, [], .null),
  (100, .iconst 5, 0, 0, [], .int 5),
  (101, .if_icmp .gt 16, 66, 0, [], .null),
  (104, .iload 4, 4, 0, [], .null),
  (106, .i2l, 0, 0, [], .null),
  (107, .iload_n 1, 1, 0, [], .null),
  (108, .i2l, 0, 0, [], .null),
  (109, .iload_n 2, 2, 0, [], .null),
  (110, .i2l, 0, 0, [], .null),
  (111, .invokestatic 112, 125, 1, [], .null),
  (114, .ifCond .ne 12, 71, 0, [], .null),
  (117, .aload_n 0, 0, 0, [], .null),
  (118, .iconst 1, 0, 0, [], .int 1),
  (119, .iload_n 3, 3, 0, [], .null),
  (120, .invokevirtual 105, 131, 0, [], .null),
  (123, .ifCond .eq 7, 73, 0, [], .null),
  (126, .iconst 1, 0, 0, [], .int 1),
  (127, .goto 4, 74, 0, [], .null),
  (130, .iconst 0, 0, 0, [], .int 0),
  (131, .ireturn, 0, 0, [], .null)]
def xm_m138 : xm_M := (12, ⟨"StairNewsModel", "numberHere", "(II)Z"⟩, prog_14_method_15_code, 5, (Option.some Jvm.ClassFile.FieldType.boolean), 2, 0, 0, xm_c138)
def xm_c139 : List xm_E := [(0, .aload_n 0, 0, 0, [], .null),
  (1, .ldc2_w 116, 0, 0, [], .long 127978959562098),
  (4, .invokevirtual 95, 135, 0, [], .null),
  (7, .ifCond .eq 5, 6, 0, [], .null),
  (10, .iconst 0, 0, 0, [], .int 0),
  (11, .ireturn, 0, 0, [], .null),
  (12, .aload_n 0, 0, 0, [], .null),
  (13, .ldc2_w 118, 0, 0, [], .long 114784635872626),
  (16, .invokevirtual 95, 135, 0, [], .null),
  (19, .ifCond .eq 5, 12, 0, [], .null),
  (22, .iconst 1, 0, 0, [], .int 1),
  (23, .ireturn, 0, 0, [], .null),
  (24, .aload_n 0, 0, 0, [], .null),
  (25, .ldc2_w 120, 0, 0, [], .long 439905906546),
  (28, .invokevirtual 95, 135, 0, [], .null),
  (31, .ifCond .eq 5, 18, 0, [], .null),
  (34, .iconst 2, 0, 0, [], .int 2),
  (35, .ireturn, 0, 0, [], .null),
  (36, .aload_n 0, 0, 0, [], .null),
  (37, .ldc2_w 122, 0, 0, [], .long 1650814060),
  (40, .invokevirtual 95, 135, 0, [], .null),
  (43, .ifCond .eq 5, 24, 0, [], .null),
  (46, .iconst 3, 0, 0, [], .int 3),
  (47, .ireturn, 0, 0, [], .null),
  (48, .aload_n 0, 0, 0, [], .null),
  (49, .ldc2_w 124, 0, 0, [], .long 109299962049139),
  (52, .invokevirtual 95, 135, 0, [], .null),
  (55, .ifCond .eq 5, 30, 0, [], .null),
  (58, .iconst 4, 0, 0, [], .int 4),
  (59, .ireturn, 0, 0, [], .null),
  (60, .aload_n 0, 0, 0, [], .null),
  (61, .ldc2_w 126, 0, 0, [], .long 495690081125),
  (64, .invokevirtual 95, 135, 0, [], .null),
  (67, .ifCond .eq 5, 36, 0, [], .null),
  (70, .iconst 5, 0, 0, [], .int 5),
  (71, .ireturn, 0, 0, [], .null),
  (72, .aload_n 0, 0, 0, [], .null),
  (73, .ldc2_w 128, 0, 0, [], .long 1752132965),
  (76, .invokevirtual 95, 135, 0, [], .null),
  (79, .ifCond .eq 6, 42, 0, [], .null),
  (82, .bipush 6, 0, 0, [], .int 6),
  (84, .ireturn, 0, 0, [], .null),
  (85, .aload_n 0, 0, 0, [], .null),
  (86, .ldc2_w 130, 0, 0, [], .long 499967685221),
  (89, .invokevirtual 95, 135, 0, [], .null),
  (92, .ifCond .eq 6, 48, 0, [], .null),
  (95, .bipush 7, 0, 0, [], .int 7),
  (97, .ireturn, 0, 0, [], .null),
  (98, .aload_n 0, 0, 0, [], .null),
  (99, .ldc2_w 132, 0, 0, [], .long 461414299502),
  (102, .invokevirtual 95, 135, 0, [], .null),
  (105, .ifCond .eq 6, 54, 0, [], .null),
  (108, .bipush 8, 0, 0, [], .int 8),
  (110, .ireturn, 0, 0, [], .null),
  (111, .aload_n 0, 0, 0, [], .null),
  (112, .ldc2_w 134, 0, 0, [], .long 474214787188),
  (115, .invokevirtual 95, 135, 0, [], .null),
  (118, .ifCond .eq 8, 60, 0, [], .null),
  (121, .bipush 9, 0, 0, [], .int 9),
  (123, .goto 19, 67, 0, [], .null),
  (126, .aload_n 0, 0, 0, [], .null),
  (127, .ldc2_w 136, 0, 0, [], .long 500219605876),
  (130, .invokevirtual 95, 135, 0, [], .null),
  (133, .ifCond .eq 8, 66, 0, [], .null),
  (136, .bipush 10, 0, 0, [], .int 10),
  (138, .goto 4, 67, 0, [], .null),
  (141, .iconst (-1), 0, 0, [], .int (-1)),
  (142, .ireturn, 0, 0, [], .null)]
def xm_m139 : xm_M := (12, ⟨"StairNewsModel", "wordHere", "()I"⟩, prog_14_method_16_code, 1, (Option.some Jvm.ClassFile.FieldType.int), 0, 0, 0, xm_c139)
def xm_c140 : List xm_E := [(0, .aload_n 0, 0, 0, [], .null),
  (1, .getfield 13, 11, 3, [], .null),
  (4, .sipush 400, 0, 0, [], .int 400),
  (7, .aload_n 0, 0, 0, [], .null),
  (8, .getfield 138, 11, 11, [], .null),
  (11, .imul, 0, 0, [], .null),
  (12, .aload_n 0, 0, 0, [], .null),
  (13, .getfield 17, 11, 4, [], .null),
  (16, .aload_n 0, 0, 0, [], .null),
  (17, .getfield 138, 11, 11, [], .null),
  (20, .iaload, 0, 0, [], .null),
  (21, .iadd, 0, 0, [], .null),
  (22, .iload_n 1, 1, 0, [], .null),
  (23, .bipush 16, 0, 0, [], .int 16),
  (25, .iload_n 2, 2, 0, [], .null),
  (26, .imul, 0, 0, [], .null),
  (27, .iadd, 0, 0, [], .null),
  (28, .iastore, 0, 0, [], .null),
  (29, .aload_n 0, 0, 0, [], .null),
  (30, .getfield 17, 11, 4, [], .null),
  (33, .aload_n 0, 0, 0, [], .null),
  (34, .getfield 138, 11, 11, [], .null),
  (37, .dup2, 0, 0, [], .null),
  (38, .iaload, 0, 0, [], .null),
  (39, .iconst 1, 0, 0, [], .int 1),
  (40, .iadd, 0, 0, [], .null),
  (41, .iastore, 0, 0, [], .null),
  (42, .return_, 0, 0, [], .null)]
def xm_m140 : xm_M := (12, ⟨"StairNewsModel", "puts", "(II)V"⟩, prog_14_method_17_code, 3, (Option.none : Option Jvm.ClassFile.FieldType), 2, 0, 0, xm_c140)
def xm_c141 : List xm_E := [(0, .aload_n 0, 0, 0, [], .null),
  (1, .getfield 141, 11, 12, [], .null),
  (4, .bipush 60, 0, 0, [], .int 60),
  (6, .if_icmp .ne 10, 9, 0, [], .null),
  (9, .aload_n 0, 0, 0, [], .null),
  (10, .iconst 3, 0, 0, [], .int 3),
  (11, .iload_n 1, 1, 0, [], .null),
  (12, .invokevirtual 105, 131, 0, [], .null),
  (15, .ireturn, 0, 0, [], .null),
  (16, .aload_n 0, 0, 0, [], .null),
  (17, .dup, 0, 0, [], .null),
  (18, .getfield 141, 11, 12, [], .null),
  (21, .iconst 1, 0, 0, [], .int 1),
  (22, .iadd, 0, 0, [], .null),
  (23, .putfield 141, 11, 12, [], .null),
  (26, .iconst 1, 0, 0, [], .int 1),
  (27, .ireturn, 0, 0, [], .null)]
def xm_m141 : xm_M := (12, ⟨"StairNewsModel", "makes", "(I)Z"⟩, prog_14_method_18_code, 2, (Option.some Jvm.ClassFile.FieldType.boolean), 1, 0, 0, xm_c141)
def xm_c142 : List xm_E := [(0, .aload_n 0, 0, 0, [], .null),
  (1, .getfield 144, 11, 13, [], .null),
  (4, .bipush 10, 0, 0, [], .int 10),
  (6, .if_icmp .ne 13, 10, 0, [], .null),
  (9, .aload_n 0, 0, 0, [], .null),
  (10, .iconst 2, 0, 0, [], .int 2),
  (11, .aload_n 0, 0, 0, [], .null),
  (12, .getfield 84, 11, 8, [], .null),
  (15, .invokevirtual 105, 131, 0, [], .null),
  (18, .ireturn, 0, 0, [], .null),
  (19, .aload_n 0, 0, 0, [], .null),
  (20, .dup, 0, 0, [], .null),
  (21, .getfield 144, 11, 13, [], .null),
  (24, .iconst 1, 0, 0, [], .int 1),
  (25, .iadd, 0, 0, [], .null),
  (26, .putfield 144, 11, 13, [], .null),
  (29, .aload_n 0, 0, 0, [], .null),
  (30, .getfield 29, 11, 15, [], .null),
  (33, .aload_n 0, 0, 0, [], .null),
  (34, .getfield 147, 11, 16, [], .null),
  (37, .iload_n 1, 1, 0, [], .null),
  (38, .iastore, 0, 0, [], .null),
  (39, .aload_n 0, 0, 0, [], .null),
  (40, .dup, 0, 0, [], .null),
  (41, .getfield 147, 11, 16, [], .null),
  (44, .iconst 1, 0, 0, [], .int 1),
  (45, .iadd, 0, 0, [], .null),
  (46, .putfield 147, 11, 16, [], .null),
  (49, .iconst 1, 0, 0, [], .int 1),
  (50, .ireturn, 0, 0, [], .null)]
def xm_m142 : xm_M := (12, ⟨"StairNewsModel", "opens", "(I)Z"⟩, prog_14_method_19_code, 2, (Option.some Jvm.ClassFile.FieldType.boolean), 1, 0, 0, xm_c142)
def xm_c143 : List xm_E := [(0, .iload_n 0, 0, 0, [], .null),
  (1, .bipush 13, 0, 0, [], .int 13),
  (3, .if_icmp .ne 7, 5, 0, [], .null),
  (6, .iconst 1, 0, 0, [], .int 1),
  (7, .goto 24, 16, 0, [], .null),
  (10, .iload_n 0, 0, 0, [], .null),
  (11, .bipush 12, 0, 0, [], .int 12),
  (13, .if_icmp .ne 7, 10, 0, [], .null),
  (16, .iconst 2, 0, 0, [], .int 2),
  (17, .goto 14, 16, 0, [], .null),
  (20, .iload_n 0, 0, 0, [], .null),
  (21, .bipush 11, 0, 0, [], .int 11),
  (23, .if_icmp .ne 7, 15, 0, [], .null),
  (26, .iconst 3, 0, 0, [], .int 3),
  (27, .goto 4, 16, 0, [], .null),
  (30, .iconst 0, 0, 0, [], .int 0),
  (31, .ireturn, 0, 0, [], .null)]
def xm_m143 : xm_M := (12, ⟨"StairNewsModel", "strength", "(I)I"⟩, prog_14_method_20_code, 1, (Option.some Jvm.ClassFile.FieldType.int), 1, 0, 0, xm_c143)
def xm_c144 : List xm_E := [(0, .aload_n 0, 0, 0, [], .null),
  (1, .getfield 147, 11, 16, [], .null),
  (4, .ifCond .le 72, 41, 0, [], .null),
  (7, .aload_n 0, 0, 0, [], .null),
  (8, .getfield 29, 11, 15, [], .null),
  (11, .aload_n 0, 0, 0, [], .null),
  (12, .getfield 147, 11, 16, [], .null),
  (15, .iconst 1, 0, 0, [], .int 1),
  (16, .isub, 0, 0, [], .null),
  (17, .iaload, 0, 0, [], .null),
  (18, .invokestatic 150, 143, 1, [], .null),
  (21, .iload_n 1, 1, 0, [], .null),
  (22, .if_icmp .lt 54, 41, 0, [], .null),
  (25, .aload_n 0, 0, 0, [], .null),
  (26, .dup, 0, 0, [], .null),
  (27, .getfield 147, 11, 16, [], .null),
  (30, .iconst 1, 0, 0, [], .int 1),
  (31, .isub, 0, 0, [], .null),
  (32, .putfield 147, 11, 16, [], .null),
  (35, .aload_n 0, 0, 0, [], .null),
  (36, .aload_n 0, 0, 0, [], .null),
  (37, .getfield 29, 11, 15, [], .null),
  (40, .aload_n 0, 0, 0, [], .null),
  (41, .getfield 147, 11, 16, [], .null),
  (44, .iaload, 0, 0, [], .null),
  (45, .iconst 0, 0, 0, [], .int 0),
  (46, .invokevirtual 154, 140, 0, [], .null),
  (49, .aload_n 0, 0, 0, [], .null),
  (50, .getfield 29, 11, 15, [], .null),
  (53, .aload_n 0, 0, 0, [], .null),
  (54, .getfield 147, 11, 16, [], .null),
  (57, .iaload, 0, 0, [], .null),
  (58, .bipush 11, 0, 0, [], .int 11),
  (60, .if_icmp .ne (-60), 0, 0, [], .null),
  (63, .aload_n 0, 0, 0, [], .null),
  (64, .dup, 0, 0, [], .null),
  (65, .getfield 144, 11, 13, [], .null),
  (68, .iconst 1, 0, 0, [], .int 1),
  (69, .isub, 0, 0, [], .null),
  (70, .putfield 144, 11, 13, [], .null),
  (73, .goto (-73), 0, 0, [], .null),
  (76, .return_, 0, 0, [], .null)]
def xm_m144 : xm_M := (12, ⟨"StairNewsModel", "settles", "(I)V"⟩, prog_14_method_21_code, 2, (Option.none : Option Jvm.ClassFile.FieldType), 1, 0, 0, xm_c144)
def xm_c145 : List xm_E := [(0, .aload_n 0, 0, 0, [], .null),
  (1, .invokevirtual 87, 132, 0, [], .null),
  (4, .pop, 0, 0, [], .null),
  (5, .aload_n 0, 0, 0, [], .null),
  (6, .getfield 84, 11, 8, [], .null),
  (9, .istore_n 1, 1, 0, [], .null),
  (10, .aload_n 0, 0, 0, [], .null),
  (11, .aload_n 0, 0, 0, [], .null),
  (12, .getfield 84, 11, 8, [], .null),
  (15, .invokevirtual 102, 133, 0, [], .null),
  (18, .ifCond .eq 34, 29, 0, [], .null),
  (21, .aload_n 0, 0, 0, [], .null),
  (22, .iconst 0, 0, 0, [], .int 0),
  (23, .ldc 158, 0, 0, [], .int 99999),
  (25, .invokevirtual 159, 138, 0, [], .null),
  (28, .ifCond .eq 11, 20, 0, [], .null),
  (31, .aload_n 0, 0, 0, [], .null),
  (32, .iload_n 1, 1, 0, [], .null),
  (33, .invokevirtual 162, 141, 0, [], .null),
  (36, .ifCond .ne 5, 22, 0, [], .null),
  (39, .iconst 0, 0, 0, [], .int 0),
  (40, .ireturn, 0, 0, [], .null),
  (41, .aload_n 0, 0, 0, [], .null),
  (42, .iconst 0, 0, 0, [], .int 0),
  (43, .aload_n 0, 0, 0, [], .null),
  (44, .getfield 109, 11, 10, [], .null),
  (47, .invokevirtual 154, 140, 0, [], .null),
  (50, .iconst 1, 0, 0, [], .int 1),
  (51, .ireturn, 0, 0, [], .null),
  (52, .aload_n 0, 0, 0, [], .null),
  (53, .invokevirtual 165, 139, 0, [], .null),
  (56, .istore_n 2, 2, 0, [], .null),
  (57, .iload_n 2, 2, 0, [], .null),
  (58, .ifCond .ge 10, 39, 0, [], .null),
  (61, .aload_n 0, 0, 0, [], .null),
  (62, .iconst 0, 0, 0, [], .int 0),
  (63, .iload_n 1, 1, 0, [], .null),
  (64, .invokevirtual 105, 131, 0, [], .null),
  (67, .ireturn, 0, 0, [], .null),
  (68, .aload_n 0, 0, 0, [], .null),
  (69, .iload_n 1, 1, 0, [], .null),
  (70, .invokevirtual 162, 141, 0, [], .null),
  (73, .ifCond .ne 5, 45, 0, [], .null),
  (76, .iconst 0, 0, 0, [], .int 0),
  (77, .ireturn, 0, 0, [], .null),
  (78, .aload_n 0, 0, 0, [], .null),
  (79, .invokevirtual 99, 136, 0, [], .null),
  (82, .aload_n 0, 0, 0, [], .null),
  (83, .iconst 1, 0, 0, [], .int 1),
  (84, .iload_n 2, 2, 0, [], .null),
  (85, .invokevirtual 154, 140, 0, [], .null),
  (88, .iconst 1, 0, 0, [], .int 1),
  (89, .ireturn, 0, 0, [], .null)]
def xm_m145 : xm_M := (12, ⟨"StairNewsModel", "value", "()Z"⟩, prog_14_method_22_code, 3, (Option.some Jvm.ClassFile.FieldType.boolean), 0, 0, 0, xm_c145)
def xm_c146 : List xm_E := [(0, .aload_n 0, 0, 0, [], .null),
  (1, .invokevirtual 168, 145, 0, [], .null),
  (4, .ifCond .ne 5, 5, 0, [], .null),
  (7, .iconst 0, 0, 0, [], .int 0),
  (8, .ireturn, 0, 0, [], .null),
  (9, .aload_n 0, 0, 0, [], .null),
  (10, .invokevirtual 87, 132, 0, [], .null),
  (13, .bipush 42, 0, 0, [], .int 42),
  (15, .if_icmp .eq 21, 17, 0, [], .null),
  (18, .aload_n 0, 0, 0, [], .null),
  (19, .invokevirtual 87, 132, 0, [], .null),
  (22, .bipush 47, 0, 0, [], .int 47),
  (24, .if_icmp .eq 12, 17, 0, [], .null),
  (27, .aload_n 0, 0, 0, [], .null),
  (28, .invokevirtual 87, 132, 0, [], .null),
  (31, .bipush 37, 0, 0, [], .int 37),
  (33, .if_icmp .ne 70, 53, 0, [], .null),
  (36, .aload_n 0, 0, 0, [], .null),
  (37, .getfield 7, 11, 0, [], .null),
  (40, .aload_n 0, 0, 0, [], .null),
  (41, .getfield 84, 11, 8, [], .null),
  (44, .baload, 0, 0, [], .null),
  (45, .bipush 42, 0, 0, [], .int 42),
  (47, .if_icmp .ne 7, 26, 0, [], .null),
  (50, .iconst 4, 0, 0, [], .int 4),
  (51, .goto 23, 36, 0, [], .null),
  (54, .aload_n 0, 0, 0, [], .null),
  (55, .getfield 7, 11, 0, [], .null),
  (58, .aload_n 0, 0, 0, [], .null),
  (59, .getfield 84, 11, 8, [], .null),
  (62, .baload, 0, 0, [], .null),
  (63, .bipush 47, 0, 0, [], .int 47),
  (65, .if_icmp .ne 7, 35, 0, [], .null),
  (68, .iconst 5, 0, 0, [], .int 5),
  (69, .goto 5, 36, 0, [], .null),
  (72, .bipush 14, 0, 0, [], .int 14),
  (74, .istore_n 1, 1, 0, [], .null),
  (75, .aload_n 0, 0, 0, [], .null),
  (76, .dup, 0, 0, [], .null),
  (77, .getfield 84, 11, 8, [], .null),
  (80, .iconst 1, 0, 0, [], .int 1),
  (81, .iadd, 0, 0, [], .null),
  (82, .putfield 84, 11, 8, [], .null),
  (85, .aload_n 0, 0, 0, [], .null),
  (86, .invokevirtual 168, 145, 0, [], .null),
  (89, .ifCond .ne 5, 48, 0, [], .null),
  (92, .iconst 0, 0, 0, [], .int 0),
  (93, .ireturn, 0, 0, [], .null),
  (94, .aload_n 0, 0, 0, [], .null),
  (95, .iload_n 1, 1, 0, [], .null),
  (96, .iconst 0, 0, 0, [], .int 0),
  (97, .invokevirtual 154, 140, 0, [], .null),
  (100, .goto (-91), 5, 0, [], .null),
  (103, .iconst 1, 0, 0, [], .int 1),
  (104, .ireturn, 0, 0, [], .null)]
def xm_m146 : xm_M := (12, ⟨"StairNewsModel", "term", "()Z"⟩, prog_14_method_23_code, 2, (Option.some Jvm.ClassFile.FieldType.boolean), 0, 0, 0, xm_c146)
def xm_c147 : List xm_E := [(0, .aload_n 0, 0, 0, [], .null),
  (1, .invokevirtual 172, 146, 0, [], .null),
  (4, .ifCond .ne 5, 5, 0, [], .null),
  (7, .iconst 0, 0, 0, [], .int 0),
  (8, .ireturn, 0, 0, [], .null),
  (9, .aload_n 0, 0, 0, [], .null),
  (10, .invokevirtual 87, 132, 0, [], .null),
  (13, .bipush 43, 0, 0, [], .int 43),
  (15, .if_icmp .eq 12, 13, 0, [], .null),
  (18, .aload_n 0, 0, 0, [], .null),
  (19, .invokevirtual 87, 132, 0, [], .null),
  (22, .bipush 45, 0, 0, [], .int 45),
  (24, .if_icmp .ne 51, 40, 0, [], .null),
  (27, .aload_n 0, 0, 0, [], .null),
  (28, .getfield 7, 11, 0, [], .null),
  (31, .aload_n 0, 0, 0, [], .null),
  (32, .getfield 84, 11, 8, [], .null),
  (35, .baload, 0, 0, [], .null),
  (36, .bipush 43, 0, 0, [], .int 43),
  (38, .if_icmp .ne 7, 22, 0, [], .null),
  (41, .iconst 2, 0, 0, [], .int 2),
  (42, .goto 4, 23, 0, [], .null),
  (45, .iconst 3, 0, 0, [], .int 3),
  (46, .istore_n 1, 1, 0, [], .null),
  (47, .aload_n 0, 0, 0, [], .null),
  (48, .dup, 0, 0, [], .null),
  (49, .getfield 84, 11, 8, [], .null),
  (52, .iconst 1, 0, 0, [], .int 1),
  (53, .iadd, 0, 0, [], .null),
  (54, .putfield 84, 11, 8, [], .null),
  (57, .aload_n 0, 0, 0, [], .null),
  (58, .invokevirtual 172, 146, 0, [], .null),
  (61, .ifCond .ne 5, 35, 0, [], .null),
  (64, .iconst 0, 0, 0, [], .int 0),
  (65, .ireturn, 0, 0, [], .null),
  (66, .aload_n 0, 0, 0, [], .null),
  (67, .iload_n 1, 1, 0, [], .null),
  (68, .iconst 0, 0, 0, [], .int 0),
  (69, .invokevirtual 154, 140, 0, [], .null),
  (72, .goto (-63), 5, 0, [], .null),
  (75, .iconst 1, 0, 0, [], .int 1),
  (76, .ireturn, 0, 0, [], .null)]
def xm_m147 : xm_M := (12, ⟨"StairNewsModel", "sum", "()Z"⟩, prog_14_method_24_code, 2, (Option.some Jvm.ClassFile.FieldType.boolean), 0, 0, 0, xm_c147)
def xm_c148 : List xm_E := [(0, .aload_n 0, 0, 0, [], .null),
  (1, .invokevirtual 175, 147, 0, [], .null),
  (4, .ifCond .ne 5, 5, 0, [], .null),
  (7, .iconst 0, 0, 0, [], .int 0),
  (8, .ireturn, 0, 0, [], .null),
  (9, .aload_n 0, 0, 0, [], .null),
  (10, .invokevirtual 87, 132, 0, [], .null),
  (13, .istore_n 1, 1, 0, [], .null),
  (14, .aload_n 0, 0, 0, [], .null),
  (15, .getfield 84, 11, 8, [], .null),
  (18, .istore_n 2, 2, 0, [], .null),
  (19, .iload_n 1, 1, 0, [], .null),
  (20, .bipush 60, 0, 0, [], .int 60),
  (22, .if_icmp .eq 22, 25, 0, [], .null),
  (25, .iload_n 1, 1, 0, [], .null),
  (26, .bipush 61, 0, 0, [], .int 61),
  (28, .if_icmp .eq 16, 25, 0, [], .null),
  (31, .iload_n 1, 1, 0, [], .null),
  (32, .bipush 62, 0, 0, [], .int 62),
  (34, .if_icmp .eq 10, 25, 0, [], .null),
  (37, .aload_n 0, 0, 0, [], .null),
  (38, .iconst 0, 0, 0, [], .int 0),
  (39, .iload_n 2, 2, 0, [], .null),
  (40, .invokevirtual 105, 131, 0, [], .null),
  (43, .ireturn, 0, 0, [], .null),
  (44, .aload_n 0, 0, 0, [], .null),
  (45, .dup, 0, 0, [], .null),
  (46, .getfield 84, 11, 8, [], .null),
  (49, .iconst 1, 0, 0, [], .int 1),
  (50, .iadd, 0, 0, [], .null),
  (51, .putfield 84, 11, 8, [], .null),
  (54, .iload_n 1, 1, 0, [], .null),
  (55, .bipush 61, 0, 0, [], .int 61),
  (57, .if_icmp .eq 32, 48, 0, [], .null),
  (60, .aload_n 0, 0, 0, [], .null),
  (61, .getfield 84, 11, 8, [], .null),
  (64, .aload_n 0, 0, 0, [], .null),
  (65, .getfield 74, 11, 1, [], .null),
  (68, .if_icmp .ge 21, 48, 0, [], .null),
  (71, .aload_n 0, 0, 0, [], .null),
  (72, .getfield 7, 11, 0, [], .null),
  (75, .aload_n 0, 0, 0, [], .null),
  (76, .getfield 84, 11, 8, [], .null),
  (79, .baload, 0, 0, [], .null),
  (80, .bipush 61, 0, 0, [], .int 61),
  (82, .if_icmp .ne 7, 48, 0, [], .null),
  (85, .iconst 1, 0, 0, [], .int 1),
  (86, .goto 4, 49, 0, [], .null),
  (89, .iconst 0, 0, 0, [], .int 0),
  (90, .istore_n 3, 3, 0, [], .null),
  (91, .iload_n 3, 3, 0, [], .null),
  (92, .ifCond .eq 13, 58, 0, [], .null),
  (95, .aload_n 0, 0, 0, [], .null),
  (96, .dup, 0, 0, [], .null),
  (97, .getfield 84, 11, 8, [], .null),
  (100, .iconst 1, 0, 0, [], .int 1),
  (101, .iadd, 0, 0, [], .null),
  (102, .putfield 84, 11, 8, [], .null),
  (105, .aload_n 0, 0, 0, [], .null),
  (106, .iload_n 2, 2, 0, [], .null),
  (107, .invokevirtual 162, 141, 0, [], .null),
  (110, .ifCond .ne 5, 64, 0, [], .null),
  (113, .iconst 0, 0, 0, [], .int 0),
  (114, .ireturn, 0, 0, [], .null),
  (115, .iload_n 1, 1, 0, [], .null),
  (116, .bipush 60, 0, 0, [], .int 60),
  (118, .if_icmp .ne 15, 73, 0, [], .null),
  (121, .iload_n 3, 3, 0, [], .null),
  (122, .ifCond .eq 7, 71, 0, [], .null),
  (125, .iconst 1, 0, 0, [], .int 1),
  (126, .goto 26, 83, 0, [], .null),
  (129, .iconst 0, 0, 0, [], .int 0),
  (130, .goto 22, 83, 0, [], .null),
  (133, .iload_n 1, 1, 0, [], .null),
  (134, .bipush 61, 0, 0, [], .int 61),
  (136, .if_icmp .ne 7, 78, 0, [], .null),
  (139, .iconst 2, 0, 0, [], .int 2),
  (140, .goto 12, 83, 0, [], .null),
  (143, .iload_n 3, 3, 0, [], .null),
  (144, .ifCond .eq 7, 82, 0, [], .null),
  (147, .iconst 3, 0, 0, [], .int 3),
  (148, .goto 4, 83, 0, [], .null),
  (151, .iconst 4, 0, 0, [], .int 4),
  (152, .istore 4, 4, 0, [], .null),
  (154, .aload_n 0, 0, 0, [], .null),
  (155, .invokevirtual 175, 147, 0, [], .null),
  (158, .ifCond .ne 5, 89, 0, [], .null),
  (161, .iconst 0, 0, 0, [], .int 0),
  (162, .ireturn, 0, 0, [], .null),
  (163, .aload_n 0, 0, 0, [], .null),
  (164, .bipush 6, 0, 0, [], .int 6),
  (166, .iload 4, 4, 0, [], .null),
  (168, .iadd, 0, 0, [], .null),
  (169, .iconst 0, 0, 0, [], .int 0),
  (170, .invokevirtual 154, 140, 0, [], .null),
  (173, .iconst 1, 0, 0, [], .int 1),
  (174, .ireturn, 0, 0, [], .null)]
def xm_m148 : xm_M := (12, ⟨"StairNewsModel", "compare", "()Z"⟩, prog_14_method_25_code, 5, (Option.some Jvm.ClassFile.FieldType.boolean), 0, 0, 0, xm_c148)
def xm_c149 : List xm_E := [(0, .iconst 1, 0, 0, [], .int 1),
  (1, .istore_n 1, 1, 0, [], .null),
  (2, .iload_n 1, 1, 0, [], .null),
  (3, .ifCond .eq 72, 42, 0, [], .null),
  (6, .iconst 0, 0, 0, [], .int 0),
  (7, .istore_n 1, 1, 0, [], .null),
  (8, .aload_n 0, 0, 0, [], .null),
  (9, .invokevirtual 87, 132, 0, [], .null),
  (12, .istore_n 2, 2, 0, [], .null),
  (13, .aload_n 0, 0, 0, [], .null),
  (14, .ldc2_w 178, 0, 0, [], .long 7237492),
  (17, .invokevirtual 95, 135, 0, [], .null),
  (20, .ifCond .eq 23, 24, 0, [], .null),
  (23, .aload_n 0, 0, 0, [], .null),
  (24, .bipush 11, 0, 0, [], .int 11),
  (26, .invokevirtual 180, 142, 0, [], .null),
  (29, .ifCond .ne 5, 19, 0, [], .null),
  (32, .iconst 0, 0, 0, [], .int 0),
  (33, .ireturn, 0, 0, [], .null),
  (34, .aload_n 0, 0, 0, [], .null),
  (35, .invokevirtual 99, 136, 0, [], .null),
  (38, .iconst 1, 0, 0, [], .int 1),
  (39, .istore_n 1, 1, 0, [], .null),
  (40, .goto 32, 41, 0, [], .null),
  (43, .iload_n 2, 2, 0, [], .null),
  (44, .bipush 91, 0, 0, [], .int 91),
  (46, .if_icmp .ne 26, 41, 0, [], .null),
  (49, .aload_n 0, 0, 0, [], .null),
  (50, .bipush 91, 0, 0, [], .int 91),
  (52, .invokevirtual 180, 142, 0, [], .null),
  (55, .ifCond .ne 5, 33, 0, [], .null),
  (58, .iconst 0, 0, 0, [], .int 0),
  (59, .ireturn, 0, 0, [], .null),
  (60, .aload_n 0, 0, 0, [], .null),
  (61, .dup, 0, 0, [], .null),
  (62, .getfield 84, 11, 8, [], .null),
  (65, .iconst 1, 0, 0, [], .int 1),
  (66, .iadd, 0, 0, [], .null),
  (67, .putfield 84, 11, 8, [], .null),
  (70, .iconst 1, 0, 0, [], .int 1),
  (71, .istore_n 1, 1, 0, [], .null),
  (72, .goto (-70), 2, 0, [], .null),
  (75, .aload_n 0, 0, 0, [], .null),
  (76, .invokevirtual 183, 148, 0, [], .null),
  (79, .ireturn, 0, 0, [], .null)]
def xm_m149 : xm_M := (12, ⟨"StairNewsModel", "fact", "()Z"⟩, prog_14_method_26_code, 3, (Option.some Jvm.ClassFile.FieldType.boolean), 0, 0, 0, xm_c149)
def xm_c150 : List xm_E := [(0, .iconst 0, 0, 0, [], .int 0),
  (1, .istore_n 1, 1, 0, [], .null),
  (2, .iload_n 1, 1, 0, [], .null),
  (3, .aload_n 0, 0, 0, [], .null),
  (4, .getfield 147, 11, 16, [], .null),
  (7, .if_icmp .ge 22, 16, 0, [], .null),
  (10, .aload_n 0, 0, 0, [], .null),
  (11, .getfield 29, 11, 15, [], .null),
  (14, .iload_n 1, 1, 0, [], .null),
  (15, .iaload, 0, 0, [], .null),
  (16, .bipush 91, 0, 0, [], .int 91),
  (18, .if_icmp .ne 5, 14, 0, [], .null),
  (21, .iconst 1, 0, 0, [], .int 1),
  (22, .ireturn, 0, 0, [], .null),
  (23, .iinc 1 1, 1, 0, [], .int 1),
  (26, .goto (-24), 2, 0, [], .null),
  (29, .iconst 0, 0, 0, [], .int 0),
  (30, .ireturn, 0, 0, [], .null)]
def xm_m150 : xm_M := (12, ⟨"StairNewsModel", "isInside", "()Z"⟩, prog_14_method_27_code, 2, (Option.some Jvm.ClassFile.FieldType.boolean), 0, 0, 0, xm_c150)
def xm_c151 : List xm_E := [(0, .aload_n 0, 0, 0, [], .null),
  (1, .iconst 3, 0, 0, [], .int 3),
  (2, .invokevirtual 186, 144, 0, [], .null),
  (5, .aload_n 0, 0, 0, [], .null),
  (6, .invokevirtual 87, 132, 0, [], .null),
  (9, .bipush 93, 0, 0, [], .int 93),
  (11, .if_icmp .ne 53, 35, 0, [], .null),
  (14, .aload_n 0, 0, 0, [], .null),
  (15, .invokevirtual 189, 150, 0, [], .null),
  (18, .ifCond .eq 46, 35, 0, [], .null),
  (21, .aload_n 0, 0, 0, [], .null),
  (22, .iconst 1, 0, 0, [], .int 1),
  (23, .invokevirtual 186, 144, 0, [], .null),
  (26, .aload_n 0, 0, 0, [], .null),
  (27, .dup, 0, 0, [], .null),
  (28, .getfield 147, 11, 16, [], .null),
  (31, .iconst 1, 0, 0, [], .int 1),
  (32, .isub, 0, 0, [], .null),
  (33, .putfield 147, 11, 16, [], .null),
  (36, .aload_n 0, 0, 0, [], .null),
  (37, .dup, 0, 0, [], .null),
  (38, .getfield 144, 11, 13, [], .null),
  (41, .iconst 1, 0, 0, [], .int 1),
  (42, .isub, 0, 0, [], .null),
  (43, .putfield 144, 11, 13, [], .null),
  (46, .aload_n 0, 0, 0, [], .null),
  (47, .dup, 0, 0, [], .null),
  (48, .getfield 84, 11, 8, [], .null),
  (51, .iconst 1, 0, 0, [], .int 1),
  (52, .iadd, 0, 0, [], .null),
  (53, .putfield 84, 11, 8, [], .null),
  (56, .aload_n 0, 0, 0, [], .null),
  (57, .iconst 3, 0, 0, [], .int 3),
  (58, .invokevirtual 186, 144, 0, [], .null),
  (61, .goto (-56), 3, 0, [], .null),
  (64, .return_, 0, 0, [], .null)]
def xm_m151 : xm_M := (12, ⟨"StairNewsModel", "closes", "()V"⟩, prog_14_method_28_code, 1, (Option.none : Option Jvm.ClassFile.FieldType), 0, 0, 0, xm_c151)
def xm_c152 : List xm_E := [(0, .aload_n 0, 0, 0, [], .null),
  (1, .iconst 0, 0, 0, [], .int 0),
  (2, .putfield 147, 11, 16, [], .null),
  (5, .aload_n 0, 0, 0, [], .null),
  (6, .iconst 0, 0, 0, [], .int 0),
  (7, .putfield 144, 11, 13, [], .null),
  (10, .iconst 1, 0, 0, [], .int 1),
  (11, .istore_n 1, 1, 0, [], .null),
  (12, .iload_n 1, 1, 0, [], .null),
  (13, .ifCond .eq 99, 58, 0, [], .null),
  (16, .aload_n 0, 0, 0, [], .null),
  (17, .invokevirtual 192, 149, 0, [], .null),
  (20, .ifCond .ne 5, 15, 0, [], .null),
  (23, .iconst 0, 0, 0, [], .int 0),
  (24, .ireturn, 0, 0, [], .null),
  (25, .aload_n 0, 0, 0, [], .null),
  (26, .invokevirtual 195, 151, 0, [], .null),
  (29, .aload_n 0, 0, 0, [], .null),
  (30, .ldc2_w 198, 0, 0, [], .long 6385252),
  (33, .invokevirtual 95, 135, 0, [], .null),
  (36, .ifCond .ne 13, 25, 0, [], .null),
  (39, .aload_n 0, 0, 0, [], .null),
  (40, .ldc2_w 200, 0, 0, [], .long 28530),
  (43, .invokevirtual 95, 135, 0, [], .null),
  (46, .ifCond .eq 7, 27, 0, [], .null),
  (49, .iconst 1, 0, 0, [], .int 1),
  (50, .goto 4, 28, 0, [], .null),
  (53, .iconst 0, 0, 0, [], .int 0),
  (54, .istore_n 1, 1, 0, [], .null),
  (55, .iload_n 1, 1, 0, [], .null),
  (56, .ifCond .eq (-44), 8, 0, [], .null),
  (59, .aload_n 0, 0, 0, [], .null),
  (60, .ldc2_w 198, 0, 0, [], .long 6385252),
  (63, .invokevirtual 95, 135, 0, [], .null),
  (66, .ifCond .eq 8, 37, 0, [], .null),
  (69, .bipush 12, 0, 0, [], .int 12),
  (71, .goto 5, 38, 0, [], .null),
  (74, .bipush 13, 0, 0, [], .int 13),
  (76, .istore_n 2, 2, 0, [], .null),
  (77, .aload_n 0, 0, 0, [], .null),
  (78, .invokevirtual 99, 136, 0, [], .null),
  (81, .aload_n 0, 0, 0, [], .null),
  (82, .iload_n 2, 2, 0, [], .null),
  (83, .invokestatic 150, 143, 1, [], .null),
  (86, .invokevirtual 186, 144, 0, [], .null),
  (89, .aload_n 0, 0, 0, [], .null),
  (90, .getfield 29, 11, 15, [], .null),
  (93, .aload_n 0, 0, 0, [], .null),
  (94, .getfield 147, 11, 16, [], .null),
  (97, .iload_n 2, 2, 0, [], .null),
  (98, .iastore, 0, 0, [], .null),
  (99, .aload_n 0, 0, 0, [], .null),
  (100, .dup, 0, 0, [], .null),
  (101, .getfield 147, 11, 16, [], .null),
  (104, .iconst 1, 0, 0, [], .int 1),
  (105, .iadd, 0, 0, [], .null),
  (106, .putfield 147, 11, 16, [], .null),
  (109, .goto (-97), 8, 0, [], .null),
  (112, .aload_n 0, 0, 0, [], .null),
  (113, .invokevirtual 189, 150, 0, [], .null),
  (116, .ifCond .eq 18, 70, 0, [], .null),
  (119, .aload_n 0, 0, 0, [], .null),
  (120, .invokevirtual 87, 132, 0, [], .null),
  (123, .pop, 0, 0, [], .null),
  (124, .aload_n 0, 0, 0, [], .null),
  (125, .iconst 0, 0, 0, [], .int 0),
  (126, .aload_n 0, 0, 0, [], .null),
  (127, .getfield 84, 11, 8, [], .null),
  (130, .invokevirtual 105, 131, 0, [], .null),
  (133, .ireturn, 0, 0, [], .null),
  (134, .aload_n 0, 0, 0, [], .null),
  (135, .iconst 1, 0, 0, [], .int 1),
  (136, .invokevirtual 186, 144, 0, [], .null),
  (139, .iconst 1, 0, 0, [], .int 1),
  (140, .ireturn, 0, 0, [], .null)]
def xm_m152 : xm_M := (12, ⟨"StairNewsModel", "tested", "()Z"⟩, prog_14_method_29_code, 3, (Option.some Jvm.ClassFile.FieldType.boolean), 0, 0, 0, xm_c152)
def xm_c153 : List xm_E := [(0, .aload_n 0, 0, 0, [], .null),
  (1, .invokevirtual 99, 136, 0, [], .null),
  (4, .bipush 48, 0, 0, [], .int 48),
  (6, .aload_n 0, 0, 0, [], .null),
  (7, .getfield 138, 11, 11, [], .null),
  (10, .imul, 0, 0, [], .null),
  (11, .iconst 4, 0, 0, [], .int 4),
  (12, .aload_n 0, 0, 0, [], .null),
  (13, .getfield 23, 11, 6, [], .null),
  (16, .aload_n 0, 0, 0, [], .null),
  (17, .getfield 138, 11, 11, [], .null),
  (20, .iaload, 0, 0, [], .null),
  (21, .imul, 0, 0, [], .null),
  (22, .iadd, 0, 0, [], .null),
  (23, .istore_n 1, 1, 0, [], .null),
  (24, .aload_n 0, 0, 0, [], .null),
  (25, .getfield 20, 11, 5, [], .null),
  (28, .iload_n 1, 1, 0, [], .null),
  (29, .aload_n 0, 0, 0, [], .null),
  (30, .getfield 17, 11, 4, [], .null),
  (33, .aload_n 0, 0, 0, [], .null),
  (34, .getfield 138, 11, 11, [], .null),
  (37, .iaload, 0, 0, [], .null),
  (38, .iastore, 0, 0, [], .null),
  (39, .aload_n 0, 0, 0, [], .null),
  (40, .invokevirtual 175, 147, 0, [], .null),
  (43, .ifCond .ne 5, 29, 0, [], .null),
  (46, .iconst 0, 0, 0, [], .int 0),
  (47, .ireturn, 0, 0, [], .null),
  (48, .aload_n 0, 0, 0, [], .null),
  (49, .getfield 20, 11, 5, [], .null),
  (52, .iload_n 1, 1, 0, [], .null),
  (53, .iconst 1, 0, 0, [], .int 1),
  (54, .iadd, 0, 0, [], .null),
  (55, .aload_n 0, 0, 0, [], .null),
  (56, .getfield 17, 11, 4, [], .null),
  (59, .aload_n 0, 0, 0, [], .null),
  (60, .getfield 138, 11, 11, [], .null),
  (63, .iaload, 0, 0, [], .null),
  (64, .iastore, 0, 0, [], .null),
  (65, .aload_n 0, 0, 0, [], .null),
  (66, .getfield 20, 11, 5, [], .null),
  (69, .iload_n 1, 1, 0, [], .null),
  (70, .iconst 2, 0, 0, [], .int 2),
  (71, .iadd, 0, 0, [], .null),
  (72, .iconst (-1), 0, 0, [], .int (-1)),
  (73, .iastore, 0, 0, [], .null),
  (74, .aload_n 0, 0, 0, [], .null),
  (75, .ldc2_w 202, 0, 0, [], .long 26982),
  (78, .invokevirtual 204, 137, 0, [], .null),
  (81, .ifCond .eq 29, 67, 0, [], .null),
  (84, .aload_n 0, 0, 0, [], .null),
  (85, .getfield 20, 11, 5, [], .null),
  (88, .iload_n 1, 1, 0, [], .null),
  (89, .iconst 2, 0, 0, [], .int 2),
  (90, .iadd, 0, 0, [], .null),
  (91, .aload_n 0, 0, 0, [], .null),
  (92, .getfield 17, 11, 4, [], .null),
  (95, .aload_n 0, 0, 0, [], .null),
  (96, .getfield 138, 11, 11, [], .null),
  (99, .iaload, 0, 0, [], .null),
  (100, .iastore, 0, 0, [], .null),
  (101, .aload_n 0, 0, 0, [], .null),
  (102, .invokevirtual 207, 152, 0, [], .null),
  (105, .ifCond .ne 5, 67, 0, [], .null),
  (108, .iconst 0, 0, 0, [], .int 0),
  (109, .ireturn, 0, 0, [], .null),
  (110, .aload_n 0, 0, 0, [], .null),
  (111, .getfield 20, 11, 5, [], .null),
  (114, .iload_n 1, 1, 0, [], .null),
  (115, .iconst 3, 0, 0, [], .int 3),
  (116, .iadd, 0, 0, [], .null),
  (117, .aload_n 0, 0, 0, [], .null),
  (118, .getfield 17, 11, 4, [], .null),
  (121, .aload_n 0, 0, 0, [], .null),
  (122, .getfield 138, 11, 11, [], .null),
  (125, .iaload, 0, 0, [], .null),
  (126, .iastore, 0, 0, [], .null),
  (127, .aload_n 0, 0, 0, [], .null),
  (128, .getfield 23, 11, 6, [], .null),
  (131, .aload_n 0, 0, 0, [], .null),
  (132, .getfield 138, 11, 11, [], .null),
  (135, .dup2, 0, 0, [], .null),
  (136, .iaload, 0, 0, [], .null),
  (137, .iconst 1, 0, 0, [], .int 1),
  (138, .iadd, 0, 0, [], .null),
  (139, .iastore, 0, 0, [], .null),
  (140, .iconst 1, 0, 0, [], .int 1),
  (141, .ireturn, 0, 0, [], .null)]
def xm_m153 : xm_M := (12, ⟨"StairNewsModel", "isTellHere", "()Z"⟩, prog_14_method_30_code, 2, (Option.some Jvm.ClassFile.FieldType.boolean), 0, 0, 0, xm_c153)
def xm_c154 : List xm_E := [(0, .aload_n 0, 0, 0, [], .null),
  (1, .iload_n 2, 2, 0, [], .null),
  (2, .iload_n 3, 3, 0, [], .null),
  (3, .invokevirtual 159, 138, 0, [], .null),
  (6, .ifCond .ne 5, 7, 0, [], .null),
  (9, .iconst 0, 0, 0, [], .int 0),
  (10, .ireturn, 0, 0, [], .null),
  (11, .aload_n 0, 0, 0, [], .null),
  (12, .getfield 26, 11, 7, [], .null),
  (15, .iload_n 1, 1, 0, [], .null),
  (16, .aload_n 0, 0, 0, [], .null),
  (17, .getfield 109, 11, 10, [], .null),
  (20, .iastore, 0, 0, [], .null),
  (21, .iconst 1, 0, 0, [], .int 1),
  (22, .ireturn, 0, 0, [], .null)]
def xm_m154 : xm_M := (12, ⟨"StairNewsModel", "cellHere", "(III)Z"⟩, prog_14_method_31_code, 4, (Option.some Jvm.ClassFile.FieldType.boolean), 3, 0, 0, xm_c154)
def xm_c155 : List xm_E := [(0, .aload_n 0, 0, 0, [], .null),
  (1, .getfield 26, 11, 7, [], .null),
  (4, .iconst 0, 0, 0, [], .int 0),
  (5, .iaload, 0, 0, [], .null),
  (6, .ifCond .le 10, 10, 0, [], .null),
  (9, .aload_n 0, 0, 0, [], .null),
  (10, .iconst 4, 0, 0, [], .int 4),
  (11, .iload_n 1, 1, 0, [], .null),
  (12, .invokevirtual 105, 131, 0, [], .null),
  (15, .ireturn, 0, 0, [], .null),
  (16, .aload_n 0, 0, 0, [], .null),
  (17, .invokevirtual 99, 136, 0, [], .null),
  (20, .aload_n 0, 0, 0, [], .null),
  (21, .iconst 0, 0, 0, [], .int 0),
  (22, .iconst 2, 0, 0, [], .int 2),
  (23, .bipush 9, 0, 0, [], .int 9),
  (25, .invokevirtual 210, 154, 0, [], .null),
  (28, .ireturn, 0, 0, [], .null)]
def xm_m155 : xm_M := (12, ⟨"StairNewsModel", "isHouseHere", "(I)Z"⟩, prog_14_method_32_code, 2, (Option.some Jvm.ClassFile.FieldType.boolean), 1, 0, 0, xm_c155)
def xm_c156 : List xm_E := [(0, .aload_n 0, 0, 0, [], .null),
  (1, .getfield 26, 11, 7, [], .null),
  (4, .iconst 1, 0, 0, [], .int 1),
  (5, .iaload, 0, 0, [], .null),
  (6, .bipush 7, 0, 0, [], .int 7),
  (8, .if_icmp .ne 10, 11, 0, [], .null),
  (11, .aload_n 0, 0, 0, [], .null),
  (12, .iconst 4, 0, 0, [], .int 4),
  (13, .iload_n 1, 1, 0, [], .null),
  (14, .invokevirtual 105, 131, 0, [], .null),
  (17, .ireturn, 0, 0, [], .null),
  (18, .aload_n 0, 0, 0, [], .null),
  (19, .invokevirtual 99, 136, 0, [], .null),
  (22, .bipush 10, 0, 0, [], .int 10),
  (24, .bipush 11, 0, 0, [], .int 11),
  (26, .aload_n 0, 0, 0, [], .null),
  (27, .getfield 26, 11, 7, [], .null),
  (30, .iconst 1, 0, 0, [], .int 1),
  (31, .iaload, 0, 0, [], .null),
  (32, .imul, 0, 0, [], .null),
  (33, .iadd, 0, 0, [], .null),
  (34, .istore_n 2, 2, 0, [], .null),
  (35, .aload_n 0, 0, 0, [], .null),
  (36, .iload_n 2, 2, 0, [], .null),
  (37, .iconst 0, 0, 0, [], .int 0),
  (38, .aload_n 0, 0, 0, [], .null),
  (39, .getfield 26, 11, 7, [], .null),
  (42, .iconst 0, 0, 0, [], .int 0),
  (43, .iaload, 0, 0, [], .null),
  (44, .iconst 1, 0, 0, [], .int 1),
  (45, .isub, 0, 0, [], .null),
  (46, .invokevirtual 210, 154, 0, [], .null),
  (49, .ifCond .eq 16, 41, 0, [], .null),
  (52, .aload_n 0, 0, 0, [], .null),
  (53, .iload_n 2, 2, 0, [], .null),
  (54, .iconst 3, 0, 0, [], .int 3),
  (55, .iadd, 0, 0, [], .null),
  (56, .iconst 1, 0, 0, [], .int 1),
  (57, .bipush 9, 0, 0, [], .int 9),
  (59, .invokevirtual 210, 154, 0, [], .null),
  (62, .ifCond .ne 5, 43, 0, [], .null),
  (65, .iconst 0, 0, 0, [], .int 0),
  (66, .ireturn, 0, 0, [], .null),
  (67, .aload_n 0, 0, 0, [], .null),
  (68, .getfield 26, 11, 7, [], .null),
  (71, .iload_n 2, 2, 0, [], .null),
  (72, .iconst 1, 0, 0, [], .int 1),
  (73, .iadd, 0, 0, [], .null),
  (74, .aload_n 0, 0, 0, [], .null),
  (75, .getfield 26, 11, 7, [], .null),
  (78, .iload_n 2, 2, 0, [], .null),
  (79, .iaload, 0, 0, [], .null),
  (80, .iastore, 0, 0, [], .null),
  (81, .aload_n 0, 0, 0, [], .null),
  (82, .getfield 26, 11, 7, [], .null),
  (85, .iload_n 2, 2, 0, [], .null),
  (86, .iconst 2, 0, 0, [], .int 2),
  (87, .iadd, 0, 0, [], .null),
  (88, .iconst 0, 0, 0, [], .int 0),
  (89, .iastore, 0, 0, [], .null),
  (90, .aload_n 0, 0, 0, [], .null),
  (91, .getfield 26, 11, 7, [], .null),
  (94, .iload_n 2, 2, 0, [], .null),
  (95, .iconst 4, 0, 0, [], .int 4),
  (96, .iadd, 0, 0, [], .null),
  (97, .aload_n 0, 0, 0, [], .null),
  (98, .getfield 26, 11, 7, [], .null),
  (101, .iload_n 2, 2, 0, [], .null),
  (102, .iaload, 0, 0, [], .null),
  (103, .iastore, 0, 0, [], .null),
  (104, .iconst 5, 0, 0, [], .int 5),
  (105, .istore_n 3, 3, 0, [], .null),
  (106, .iload_n 3, 3, 0, [], .null),
  (107, .bipush 11, 0, 0, [], .int 11),
  (109, .if_icmp .ge 34, 92, 0, [], .null),
  (112, .aload_n 0, 0, 0, [], .null),
  (113, .getfield 26, 11, 7, [], .null),
  (116, .iload_n 2, 2, 0, [], .null),
  (117, .iload_n 3, 3, 0, [], .null),
  (118, .iadd, 0, 0, [], .null),
  (119, .iload_n 3, 3, 0, [], .null),
  (120, .bipush 8, 0, 0, [], .int 8),
  (122, .if_icmp .eq 9, 86, 0, [], .null),
  (125, .iload_n 3, 3, 0, [], .null),
  (126, .bipush 10, 0, 0, [], .int 10),
  (128, .if_icmp .ne 7, 88, 0, [], .null),
  (131, .iconst (-1), 0, 0, [], .int (-1)),
  (132, .goto 4, 89, 0, [], .null),
  (135, .iconst 0, 0, 0, [], .int 0),
  (136, .iastore, 0, 0, [], .null),
  (137, .iinc 3 1, 3, 0, [], .int 1),
  (140, .goto (-34), 72, 0, [], .null),
  (143, .aload_n 0, 0, 0, [], .null),
  (144, .getfield 26, 11, 7, [], .null),
  (147, .iconst 1, 0, 0, [], .int 1),
  (148, .dup2, 0, 0, [], .null),
  (149, .iaload, 0, 0, [], .null),
  (150, .iconst 1, 0, 0, [], .int 1),
  (151, .iadd, 0, 0, [], .null),
  (152, .iastore, 0, 0, [], .null),
  (153, .iconst 1, 0, 0, [], .int 1),
  (154, .ireturn, 0, 0, [], .null)]
def xm_m156 : xm_M := (12, ⟨"StairNewsModel", "isPersonHere", "(I)Z"⟩, prog_14_method_33_code, 4, (Option.some Jvm.ClassFile.FieldType.boolean), 1, 0, 0, xm_c156)
def xm_c157 : List xm_E := [(0, .aload_n 0, 0, 0, [], .null),
  (1, .getfield 26, 11, 7, [], .null),
  (4, .iconst 2, 0, 0, [], .int 2),
  (5, .iaload, 0, 0, [], .null),
  (6, .bipush 10, 0, 0, [], .int 10),
  (8, .if_icmp .ne 10, 11, 0, [], .null),
  (11, .aload_n 0, 0, 0, [], .null),
  (12, .iconst 4, 0, 0, [], .int 4),
  (13, .iload_n 1, 1, 0, [], .null),
  (14, .invokevirtual 105, 131, 0, [], .null),
  (17, .ireturn, 0, 0, [], .null),
  (18, .aload_n 0, 0, 0, [], .null),
  (19, .invokevirtual 99, 136, 0, [], .null),
  (22, .bipush 87, 0, 0, [], .int 87),
  (24, .iconst 3, 0, 0, [], .int 3),
  (25, .aload_n 0, 0, 0, [], .null),
  (26, .getfield 26, 11, 7, [], .null),
  (29, .iconst 2, 0, 0, [], .int 2),
  (30, .iaload, 0, 0, [], .null),
  (31, .imul, 0, 0, [], .null),
  (32, .iadd, 0, 0, [], .null),
  (33, .istore_n 2, 2, 0, [], .null),
  (34, .aload_n 0, 0, 0, [], .null),
  (35, .iload_n 2, 2, 0, [], .null),
  (36, .iconst 0, 0, 0, [], .int 0),
  (37, .aload_n 0, 0, 0, [], .null),
  (38, .getfield 26, 11, 7, [], .null),
  (41, .iconst 1, 0, 0, [], .int 1),
  (42, .iaload, 0, 0, [], .null),
  (43, .iconst 1, 0, 0, [], .int 1),
  (44, .isub, 0, 0, [], .null),
  (45, .invokevirtual 210, 154, 0, [], .null),
  (48, .ifCond .eq 35, 54, 0, [], .null),
  (51, .aload_n 0, 0, 0, [], .null),
  (52, .iload_n 2, 2, 0, [], .null),
  (53, .iconst 1, 0, 0, [], .int 1),
  (54, .iadd, 0, 0, [], .null),
  (55, .iconst 0, 0, 0, [], .int 0),
  (56, .aload_n 0, 0, 0, [], .null),
  (57, .getfield 26, 11, 7, [], .null),
  (60, .iconst 0, 0, 0, [], .int 0),
  (61, .iaload, 0, 0, [], .null),
  (62, .iconst 1, 0, 0, [], .int 1),
  (63, .isub, 0, 0, [], .null),
  (64, .invokevirtual 210, 154, 0, [], .null),
  (67, .ifCond .eq 16, 54, 0, [], .null),
  (70, .aload_n 0, 0, 0, [], .null),
  (71, .iload_n 2, 2, 0, [], .null),
  (72, .iconst 2, 0, 0, [], .int 2),
  (73, .iadd, 0, 0, [], .null),
  (74, .iconst 0, 0, 0, [], .int 0),
  (75, .bipush 99, 0, 0, [], .int 99),
  (77, .invokevirtual 210, 154, 0, [], .null),
  (80, .ifCond .ne 5, 56, 0, [], .null),
  (83, .iconst 0, 0, 0, [], .int 0),
  (84, .ireturn, 0, 0, [], .null),
  (85, .aload_n 0, 0, 0, [], .null),
  (86, .getfield 26, 11, 7, [], .null),
  (89, .iconst 2, 0, 0, [], .int 2),
  (90, .dup2, 0, 0, [], .null),
  (91, .iaload, 0, 0, [], .null),
  (92, .iconst 1, 0, 0, [], .int 1),
  (93, .iadd, 0, 0, [], .null),
  (94, .iastore, 0, 0, [], .null),
  (95, .iconst 1, 0, 0, [], .int 1),
  (96, .ireturn, 0, 0, [], .null)]
def xm_m157 : xm_M := (12, ⟨"StairNewsModel", "isErrandHere", "(I)Z"⟩, prog_14_method_34_code, 3, (Option.some Jvm.ClassFile.FieldType.boolean), 1, 0, 0, xm_c157)
def xm_c158 : List xm_E := [(0, .aload_n 0, 0, 0, [], .null),
  (1, .getfield 26, 11, 7, [], .null),
  (4, .iconst 3, 0, 0, [], .int 3),
  (5, .iaload, 0, 0, [], .null),
  (6, .bipush 6, 0, 0, [], .int 6),
  (8, .if_icmp .ne 10, 11, 0, [], .null),
  (11, .aload_n 0, 0, 0, [], .null),
  (12, .iconst 4, 0, 0, [], .int 4),
  (13, .iload_n 1, 1, 0, [], .null),
  (14, .invokevirtual 105, 131, 0, [], .null),
  (17, .ireturn, 0, 0, [], .null),
  (18, .aload_n 0, 0, 0, [], .null),
  (19, .invokevirtual 99, 136, 0, [], .null),
  (22, .aload_n 0, 0, 0, [], .null),
  (23, .iconst 0, 0, 0, [], .int 0),
  (24, .aload_n 0, 0, 0, [], .null),
  (25, .getfield 26, 11, 7, [], .null),
  (28, .iconst 1, 0, 0, [], .int 1),
  (29, .iaload, 0, 0, [], .null),
  (30, .iconst 1, 0, 0, [], .int 1),
  (31, .isub, 0, 0, [], .null),
  (32, .invokevirtual 159, 138, 0, [], .null),
  (35, .ifCond .ne 5, 25, 0, [], .null),
  (38, .iconst 0, 0, 0, [], .int 0),
  (39, .ireturn, 0, 0, [], .null),
  (40, .aload_n 0, 0, 0, [], .null),
  (41, .getfield 109, 11, 10, [], .null),
  (44, .istore_n 2, 2, 0, [], .null),
  (45, .aload_n 0, 0, 0, [], .null),
  (46, .invokevirtual 87, 132, 0, [], .null),
  (49, .pop, 0, 0, [], .null),
  (50, .aload_n 0, 0, 0, [], .null),
  (51, .getfield 84, 11, 8, [], .null),
  (54, .istore_n 3, 3, 0, [], .null),
  (55, .aload_n 0, 0, 0, [], .null),
  (56, .iconst 0, 0, 0, [], .int 0),
  (57, .aload_n 0, 0, 0, [], .null),
  (58, .getfield 26, 11, 7, [], .null),
  (61, .iconst 1, 0, 0, [], .int 1),
  (62, .iaload, 0, 0, [], .null),
  (63, .iconst 1, 0, 0, [], .int 1),
  (64, .isub, 0, 0, [], .null),
  (65, .invokevirtual 159, 138, 0, [], .null),
  (68, .ifCond .ne 5, 46, 0, [], .null),
  (71, .iconst 0, 0, 0, [], .int 0),
  (72, .ireturn, 0, 0, [], .null),
  (73, .aload_n 0, 0, 0, [], .null),
  (74, .getfield 109, 11, 10, [], .null),
  (77, .iload_n 2, 2, 0, [], .null),
  (78, .if_icmp .ne 10, 55, 0, [], .null),
  (81, .aload_n 0, 0, 0, [], .null),
  (82, .iconst 1, 0, 0, [], .int 1),
  (83, .iload_n 3, 3, 0, [], .null),
  (84, .invokevirtual 105, 131, 0, [], .null),
  (87, .ireturn, 0, 0, [], .null),
  (88, .aload_n 0, 0, 0, [], .null),
  (89, .getfield 26, 11, 7, [], .null),
  (92, .bipush 10, 0, 0, [], .int 10),
  (94, .bipush 11, 0, 0, [], .int 11),
  (96, .iload_n 2, 2, 0, [], .null),
  (97, .imul, 0, 0, [], .null),
  (98, .iadd, 0, 0, [], .null),
  (99, .iconst 5, 0, 0, [], .int 5),
  (100, .iadd, 0, 0, [], .null),
  (101, .dup2, 0, 0, [], .null),
  (102, .iaload, 0, 0, [], .null),
  (103, .iconst 1, 0, 0, [], .int 1),
  (104, .aload_n 0, 0, 0, [], .null),
  (105, .getfield 109, 11, 10, [], .null),
  (108, .ishl, 0, 0, [], .null),
  (109, .ior, 0, 0, [], .null),
  (110, .iastore, 0, 0, [], .null),
  (111, .aload_n 0, 0, 0, [], .null),
  (112, .getfield 26, 11, 7, [], .null),
  (115, .bipush 10, 0, 0, [], .int 10),
  (117, .bipush 11, 0, 0, [], .int 11),
  (119, .aload_n 0, 0, 0, [], .null),
  (120, .getfield 109, 11, 10, [], .null),
  (123, .imul, 0, 0, [], .null),
  (124, .iadd, 0, 0, [], .null),
  (125, .iconst 5, 0, 0, [], .int 5),
  (126, .iadd, 0, 0, [], .null),
  (127, .dup2, 0, 0, [], .null),
  (128, .iaload, 0, 0, [], .null),
  (129, .iconst 1, 0, 0, [], .int 1),
  (130, .iload_n 2, 2, 0, [], .null),
  (131, .ishl, 0, 0, [], .null),
  (132, .ior, 0, 0, [], .null),
  (133, .iastore, 0, 0, [], .null),
  (134, .aload_n 0, 0, 0, [], .null),
  (135, .getfield 26, 11, 7, [], .null),
  (138, .iconst 3, 0, 0, [], .int 3),
  (139, .dup2, 0, 0, [], .null),
  (140, .iaload, 0, 0, [], .null),
  (141, .iconst 1, 0, 0, [], .int 1),
  (142, .iadd, 0, 0, [], .null),
  (143, .iastore, 0, 0, [], .null),
  (144, .iconst 1, 0, 0, [], .int 1),
  (145, .ireturn, 0, 0, [], .null)]
def xm_m158 : xm_M := (12, ⟨"StairNewsModel", "areHatesHere", "(I)Z"⟩, prog_14_method_35_code, 4, (Option.some Jvm.ClassFile.FieldType.boolean), 1, 0, 0, xm_c158)
def xm_c159 : List xm_E := [(0, .aload_n 0, 0, 0, [], .null),
  (1, .invokevirtual 99, 136, 0, [], .null),
  (4, .aload_n 0, 0, 0, [], .null),
  (5, .iconst 0, 0, 0, [], .int 0),
  (6, .aload_n 0, 0, 0, [], .null),
  (7, .getfield 26, 11, 7, [], .null),
  (10, .iconst 1, 0, 0, [], .int 1),
  (11, .iaload, 0, 0, [], .null),
  (12, .iconst 1, 0, 0, [], .int 1),
  (13, .isub, 0, 0, [], .null),
  (14, .invokevirtual 159, 138, 0, [], .null),
  (17, .ifCond .ne 5, 14, 0, [], .null),
  (20, .iconst 0, 0, 0, [], .int 0),
  (21, .ireturn, 0, 0, [], .null),
  (22, .aload_n 0, 0, 0, [], .null),
  (23, .getfield 26, 11, 7, [], .null),
  (26, .bipush 10, 0, 0, [], .int 10),
  (28, .bipush 11, 0, 0, [], .int 11),
  (30, .aload_n 0, 0, 0, [], .null),
  (31, .getfield 109, 11, 10, [], .null),
  (34, .imul, 0, 0, [], .null),
  (35, .iadd, 0, 0, [], .null),
  (36, .bipush 6, 0, 0, [], .int 6),
  (38, .iadd, 0, 0, [], .null),
  (39, .iconst 1, 0, 0, [], .int 1),
  (40, .iastore, 0, 0, [], .null),
  (41, .iconst 1, 0, 0, [], .int 1),
  (42, .ireturn, 0, 0, [], .null)]
def xm_m159 : xm_M := (12, ⟨"StairNewsModel", "isDeafHere", "()Z"⟩, prog_14_method_36_code, 1, (Option.some Jvm.ClassFile.FieldType.boolean), 0, 0, 0, xm_c159)
def xm_c160 : List xm_E := [(0, .aload_n 0, 0, 0, [], .null),
  (1, .invokevirtual 99, 136, 0, [], .null),
  (4, .aload_n 0, 0, 0, [], .null),
  (5, .iconst 0, 0, 0, [], .int 0),
  (6, .aload_n 0, 0, 0, [], .null),
  (7, .getfield 26, 11, 7, [], .null),
  (10, .iconst 1, 0, 0, [], .int 1),
  (11, .iaload, 0, 0, [], .null),
  (12, .iconst 1, 0, 0, [], .int 1),
  (13, .isub, 0, 0, [], .null),
  (14, .invokevirtual 159, 138, 0, [], .null),
  (17, .ifCond .ne 5, 14, 0, [], .null),
  (20, .iconst 0, 0, 0, [], .int 0),
  (21, .ireturn, 0, 0, [], .null),
  (22, .bipush 10, 0, 0, [], .int 10),
  (24, .bipush 11, 0, 0, [], .int 11),
  (26, .aload_n 0, 0, 0, [], .null),
  (27, .getfield 109, 11, 10, [], .null),
  (30, .imul, 0, 0, [], .null),
  (31, .iadd, 0, 0, [], .null),
  (32, .istore_n 2, 2, 0, [], .null),
  (33, .aload_n 0, 0, 0, [], .null),
  (34, .iconst 1, 0, 0, [], .int 1),
  (35, .bipush 9, 0, 0, [], .int 9),
  (37, .invokevirtual 159, 138, 0, [], .null),
  (40, .ifCond .ne 5, 28, 0, [], .null),
  (43, .iconst 0, 0, 0, [], .int 0),
  (44, .ireturn, 0, 0, [], .null),
  (45, .aload_n 0, 0, 0, [], .null),
  (46, .getfield 26, 11, 7, [], .null),
  (49, .iload_n 2, 2, 0, [], .null),
  (50, .bipush 7, 0, 0, [], .int 7),
  (52, .iadd, 0, 0, [], .null),
  (53, .iload_n 1, 1, 0, [], .null),
  (54, .aload_n 0, 0, 0, [], .null),
  (55, .getfield 109, 11, 10, [], .null),
  (58, .imul, 0, 0, [], .null),
  (59, .iastore, 0, 0, [], .null),
  (60, .iconst 1, 0, 0, [], .int 1),
  (61, .ireturn, 0, 0, [], .null)]
def xm_m160 : xm_M := (12, ⟨"StairNewsModel", "isTwistHere", "(I)Z"⟩, prog_14_method_37_code, 3, (Option.some Jvm.ClassFile.FieldType.boolean), 1, 0, 0, xm_c160)
def xm_c161 : List xm_E := [(0, .aload_n 0, 0, 0, [], .null),
  (1, .invokevirtual 99, 136, 0, [], .null),
  (4, .aload_n 0, 0, 0, [], .null),
  (5, .iconst 0, 0, 0, [], .int 0),
  (6, .aload_n 0, 0, 0, [], .null),
  (7, .getfield 26, 11, 7, [], .null),
  (10, .iconst 0, 0, 0, [], .int 0),
  (11, .iaload, 0, 0, [], .null),
  (12, .iconst 1, 0, 0, [], .int 1),
  (13, .isub, 0, 0, [], .null),
  (14, .invokevirtual 159, 138, 0, [], .null),
  (17, .ifCond .ne 5, 14, 0, [], .null),
  (20, .iconst 0, 0, 0, [], .int 0),
  (21, .ireturn, 0, 0, [], .null),
  (22, .aload_n 0, 0, 0, [], .null),
  (23, .getfield 26, 11, 7, [], .null),
  (26, .iload_n 1, 1, 0, [], .null),
  (27, .dup2, 0, 0, [], .null),
  (28, .iaload, 0, 0, [], .null),
  (29, .iconst 1, 0, 0, [], .int 1),
  (30, .aload_n 0, 0, 0, [], .null),
  (31, .getfield 109, 11, 10, [], .null),
  (34, .ishl, 0, 0, [], .null),
  (35, .ior, 0, 0, [], .null),
  (36, .iastore, 0, 0, [], .null),
  (37, .iconst 1, 0, 0, [], .int 1),
  (38, .ireturn, 0, 0, [], .null)]
def xm_m161 : xm_M := (12, ⟨"StairNewsModel", "isFloorSetHere", "(I)Z"⟩, prog_14_method_38_code, 2, (Option.some Jvm.ClassFile.FieldType.boolean), 1, 0, 0, xm_c161)
def xm_c162 : List xm_E := [(0, .aload_n 0, 0, 0, [], .null),
  (1, .getfield 26, 11, 7, [], .null),
  (4, .iconst 5, 0, 0, [], .int 5),
  (5, .iaload, 0, 0, [], .null),
  (6, .ifCond .lt 10, 10, 0, [], .null),
  (9, .aload_n 0, 0, 0, [], .null),
  (10, .iconst 4, 0, 0, [], .int 4),
  (11, .iload_n 1, 1, 0, [], .null),
  (12, .invokevirtual 105, 131, 0, [], .null),
  (15, .ireturn, 0, 0, [], .null),
  (16, .aload_n 0, 0, 0, [], .null),
  (17, .invokevirtual 99, 136, 0, [], .null),
  (20, .aload_n 0, 0, 0, [], .null),
  (21, .iconst 5, 0, 0, [], .int 5),
  (22, .iconst 0, 0, 0, [], .int 0),
  (23, .bipush 99, 0, 0, [], .int 99),
  (25, .invokevirtual 210, 154, 0, [], .null),
  (28, .ireturn, 0, 0, [], .null)]
def xm_m162 : xm_M := (12, ⟨"StairNewsModel", "isNightHere", "(I)Z"⟩, prog_14_method_39_code, 2, (Option.some Jvm.ClassFile.FieldType.boolean), 1, 0, 0, xm_c162)
def xm_c163 : List xm_E := [(0, .aload_n 0, 0, 0, [], .null),
  (1, .getfield 26, 11, 7, [], .null),
  (4, .bipush 6, 0, 0, [], .int 6),
  (6, .iaload, 0, 0, [], .null),
  (7, .ifCond .lt 10, 10, 0, [], .null),
  (10, .aload_n 0, 0, 0, [], .null),
  (11, .iconst 4, 0, 0, [], .int 4),
  (12, .iload_n 1, 1, 0, [], .null),
  (13, .invokevirtual 105, 131, 0, [], .null),
  (16, .ireturn, 0, 0, [], .null),
  (17, .aload_n 0, 0, 0, [], .null),
  (18, .invokevirtual 99, 136, 0, [], .null),
  (21, .aload_n 0, 0, 0, [], .null),
  (22, .bipush 6, 0, 0, [], .int 6),
  (24, .iconst 0, 0, 0, [], .int 0),
  (25, .aload_n 0, 0, 0, [], .null),
  (26, .getfield 26, 11, 7, [], .null),
  (29, .iconst 0, 0, 0, [], .int 0),
  (30, .iaload, 0, 0, [], .null),
  (31, .iconst 1, 0, 0, [], .int 1),
  (32, .isub, 0, 0, [], .null),
  (33, .invokevirtual 210, 154, 0, [], .null),
  (36, .ifCond .ne 5, 25, 0, [], .null),
  (39, .iconst 0, 0, 0, [], .int 0),
  (40, .ireturn, 0, 0, [], .null),
  (41, .aload_n 0, 0, 0, [], .null),
  (42, .invokevirtual 87, 132, 0, [], .null),
  (45, .pop, 0, 0, [], .null),
  (46, .aload_n 0, 0, 0, [], .null),
  (47, .getfield 84, 11, 8, [], .null),
  (50, .istore_n 2, 2, 0, [], .null),
  (51, .aload_n 0, 0, 0, [], .null),
  (52, .bipush 7, 0, 0, [], .int 7),
  (54, .iconst 0, 0, 0, [], .int 0),
  (55, .aload_n 0, 0, 0, [], .null),
  (56, .getfield 26, 11, 7, [], .null),
  (59, .iconst 0, 0, 0, [], .int 0),
  (60, .iaload, 0, 0, [], .null),
  (61, .iconst 1, 0, 0, [], .int 1),
  (62, .isub, 0, 0, [], .null),
  (63, .invokevirtual 210, 154, 0, [], .null),
  (66, .ifCond .eq 33, 58, 0, [], .null),
  (69, .aload_n 0, 0, 0, [], .null),
  (70, .getfield 26, 11, 7, [], .null),
  (73, .bipush 7, 0, 0, [], .int 7),
  (75, .iaload, 0, 0, [], .null),
  (76, .aload_n 0, 0, 0, [], .null),
  (77, .getfield 26, 11, 7, [], .null),
  (80, .bipush 6, 0, 0, [], .int 6),
  (82, .iaload, 0, 0, [], .null),
  (83, .if_icmp .ne 12, 56, 0, [], .null),
  (86, .aload_n 0, 0, 0, [], .null),
  (87, .iconst 1, 0, 0, [], .int 1),
  (88, .iload_n 2, 2, 0, [], .null),
  (89, .invokevirtual 105, 131, 0, [], .null),
  (92, .ifCond .eq 7, 58, 0, [], .null),
  (95, .iconst 1, 0, 0, [], .int 1),
  (96, .goto 4, 59, 0, [], .null),
  (99, .iconst 0, 0, 0, [], .int 0),
  (100, .ireturn, 0, 0, [], .null)]
def xm_m163 : xm_M := (12, ⟨"StairNewsModel", "isBucketHere", "(I)Z"⟩, prog_14_method_40_code, 3, (Option.some Jvm.ClassFile.FieldType.boolean), 1, 0, 0, xm_c163)
def xm_c164 : List xm_E := [(0, .aload_n 0, 0, 0, [], .null),
  (1, .ldc2_w 214, 0, 0, [], .long 448546567013),
  (4, .invokevirtual 95, 135, 0, [], .null),
  (7, .ifCond .eq 9, 8, 0, [], .null),
  (10, .aload_n 0, 0, 0, [], .null),
  (11, .iload_n 1, 1, 0, [], .null),
  (12, .invokevirtual 216, 155, 0, [], .null),
  (15, .ireturn, 0, 0, [], .null),
  (16, .aload_n 0, 0, 0, [], .null),
  (17, .getfield 26, 11, 7, [], .null),
  (20, .iconst 0, 0, 0, [], .int 0),
  (21, .iaload, 0, 0, [], .null),
  (22, .ifCond .ne 10, 18, 0, [], .null),
  (25, .aload_n 0, 0, 0, [], .null),
  (26, .iconst 4, 0, 0, [], .int 4),
  (27, .iload_n 1, 1, 0, [], .null),
  (28, .invokevirtual 105, 131, 0, [], .null),
  (31, .ireturn, 0, 0, [], .null),
  (32, .aload_n 0, 0, 0, [], .null),
  (33, .ldc2_w 219, 0, 0, [], .long 123581014175598),
  (36, .invokevirtual 95, 135, 0, [], .null),
  (39, .ifCond .eq 9, 26, 0, [], .null),
  (42, .aload_n 0, 0, 0, [], .null),
  (43, .iload_n 1, 1, 0, [], .null),
  (44, .invokevirtual 221, 156, 0, [], .null),
  (47, .ireturn, 0, 0, [], .null),
  (48, .aload_n 0, 0, 0, [], .null),
  (49, .ldc2_w 224, 0, 0, [], .long 111542219664996),
  (52, .invokevirtual 95, 135, 0, [], .null),
  (55, .ifCond .eq 9, 34, 0, [], .null),
  (58, .aload_n 0, 0, 0, [], .null),
  (59, .iload_n 1, 1, 0, [], .null),
  (60, .invokevirtual 226, 157, 0, [], .null),
  (63, .ireturn, 0, 0, [], .null),
  (64, .aload_n 0, 0, 0, [], .null),
  (65, .ldc2_w 229, 0, 0, [], .long 448311616883),
  (68, .invokevirtual 95, 135, 0, [], .null),
  (71, .ifCond .eq 9, 42, 0, [], .null),
  (74, .aload_n 0, 0, 0, [], .null),
  (75, .iload_n 1, 1, 0, [], .null),
  (76, .invokevirtual 231, 158, 0, [], .null),
  (79, .ireturn, 0, 0, [], .null),
  (80, .aload_n 0, 0, 0, [], .null),
  (81, .ldc2_w 234, 0, 0, [], .long 1684365670),
  (84, .invokevirtual 95, 135, 0, [], .null),
  (87, .ifCond .eq 8, 49, 0, [], .null),
  (90, .aload_n 0, 0, 0, [], .null),
  (91, .invokevirtual 236, 159, 0, [], .null),
  (94, .ireturn, 0, 0, [], .null),
  (95, .aload_n 0, 0, 0, [], .null),
  (96, .ldc2_w 239, 0, 0, [], .long 1633969267),
  (99, .invokevirtual 95, 135, 0, [], .null),
  (102, .ifCond .eq 9, 57, 0, [], .null),
  (105, .aload_n 0, 0, 0, [], .null),
  (106, .iconst 1, 0, 0, [], .int 1),
  (107, .invokevirtual 241, 160, 0, [], .null),
  (110, .ireturn, 0, 0, [], .null),
  (111, .aload_n 0, 0, 0, [], .null),
  (112, .ldc2_w 244, 0, 0, [], .long 499850634611),
  (115, .invokevirtual 95, 135, 0, [], .null),
  (118, .ifCond .eq 9, 65, 0, [], .null),
  (121, .aload_n 0, 0, 0, [], .null),
  (122, .iconst (-1), 0, 0, [], .int (-1)),
  (123, .invokevirtual 241, 160, 0, [], .null),
  (126, .ireturn, 0, 0, [], .null),
  (127, .aload_n 0, 0, 0, [], .null),
  (128, .ldc2_w 246, 0, 0, [], .long 482854661748),
  (131, .invokevirtual 95, 135, 0, [], .null),
  (134, .ifCond .eq 10, 73, 0, [], .null),
  (137, .aload_n 0, 0, 0, [], .null),
  (138, .bipush 8, 0, 0, [], .int 8),
  (140, .invokevirtual 248, 161, 0, [], .null),
  (143, .ireturn, 0, 0, [], .null),
  (144, .aload_n 0, 0, 0, [], .null),
  (145, .ldc2_w 251, 0, 0, [], .long 7104884),
  (148, .invokevirtual 95, 135, 0, [], .null),
  (151, .ifCond .eq 12, 81, 0, [], .null),
  (154, .aload_n 0, 0, 0, [], .null),
  (155, .bipush 9, 0, 0, [], .int 9),
  (157, .invokevirtual 248, 161, 0, [], .null),
  (160, .goto 26, 92, 0, [], .null),
  (163, .aload_n 0, 0, 0, [], .null),
  (164, .ldc2_w 134, 0, 0, [], .long 474214787188),
  (167, .invokevirtual 95, 135, 0, [], .null),
  (170, .ifCond .eq 11, 89, 0, [], .null),
  (173, .aload_n 0, 0, 0, [], .null),
  (174, .iload_n 1, 1, 0, [], .null),
  (175, .invokevirtual 253, 162, 0, [], .null),
  (178, .goto 8, 92, 0, [], .null),
  (181, .aload_n 0, 0, 0, [], .null),
  (182, .iload_n 1, 1, 0, [], .null),
  (183, .invokevirtual 256, 163, 0, [], .null),
  (186, .ireturn, 0, 0, [], .null)]
def xm_m164 : xm_M := (12, ⟨"StairNewsModel", "houseLineHere", "(I)Z"⟩, prog_14_method_41_code, 2, (Option.some Jvm.ClassFile.FieldType.boolean), 1, 0, 0, xm_c164)
def xm_c165 : List xm_E := [(0, .aload_n 0, 0, 0, [], .null),
  (1, .ldc2_w 214, 0, 0, [], .long 448546567013),
  (4, .invokevirtual 95, 135, 0, [], .null),
  (7, .ifCond .ne 53, 24, 0, [], .null),
  (10, .aload_n 0, 0, 0, [], .null),
  (11, .ldc2_w 219, 0, 0, [], .long 123581014175598),
  (14, .invokevirtual 95, 135, 0, [], .null),
  (17, .ifCond .ne 43, 24, 0, [], .null),
  (20, .aload_n 0, 0, 0, [], .null),
  (21, .ldc2_w 224, 0, 0, [], .long 111542219664996),
  (24, .invokevirtual 95, 135, 0, [], .null),
  (27, .ifCond .ne 33, 24, 0, [], .null),
  (30, .aload_n 0, 0, 0, [], .null),
  (31, .ldc2_w 229, 0, 0, [], .long 448311616883),
  (34, .invokevirtual 95, 135, 0, [], .null),
  (37, .ifCond .ne 23, 24, 0, [], .null),
  (40, .aload_n 0, 0, 0, [], .null),
  (41, .ldc2_w 234, 0, 0, [], .long 1684365670),
  (44, .invokevirtual 95, 135, 0, [], .null),
  (47, .ifCond .ne 13, 24, 0, [], .null),
  (50, .aload_n 0, 0, 0, [], .null),
  (51, .ldc2_w 239, 0, 0, [], .long 1633969267),
  (54, .invokevirtual 95, 135, 0, [], .null),
  (57, .ifCond .eq 7, 26, 0, [], .null),
  (60, .iconst 1, 0, 0, [], .int 1),
  (61, .goto 4, 27, 0, [], .null),
  (64, .iconst 0, 0, 0, [], .int 0),
  (65, .istore_n 1, 1, 0, [], .null),
  (66, .iload_n 1, 1, 0, [], .null),
  (67, .ifCond .ne 53, 50, 0, [], .null),
  (70, .aload_n 0, 0, 0, [], .null),
  (71, .ldc2_w 244, 0, 0, [], .long 499850634611),
  (74, .invokevirtual 95, 135, 0, [], .null),
  (77, .ifCond .ne 43, 50, 0, [], .null),
  (80, .aload_n 0, 0, 0, [], .null),
  (81, .ldc2_w 246, 0, 0, [], .long 482854661748),
  (84, .invokevirtual 95, 135, 0, [], .null),
  (87, .ifCond .ne 33, 50, 0, [], .null),
  (90, .aload_n 0, 0, 0, [], .null),
  (91, .ldc2_w 251, 0, 0, [], .long 7104884),
  (94, .invokevirtual 95, 135, 0, [], .null),
  (97, .ifCond .ne 23, 50, 0, [], .null),
  (100, .aload_n 0, 0, 0, [], .null),
  (101, .ldc2_w 134, 0, 0, [], .long 474214787188),
  (104, .invokevirtual 95, 135, 0, [], .null),
  (107, .ifCond .ne 13, 50, 0, [], .null),
  (110, .aload_n 0, 0, 0, [], .null),
  (111, .ldc2_w 259, 0, 0, [], .long 108256318678388),
  (114, .invokevirtual 95, 135, 0, [], .null),
  (117, .ifCond .eq 7, 52, 0, [], .null),
  (120, .iconst 1, 0, 0, [], .int 1),
  (121, .goto 4, 53, 0, [], .null),
  (124, .iconst 0, 0, 0, [], .int 0),
  (125, .ireturn, 0, 0, [], .null)]
def xm_m165 : xm_M := (12, ⟨"StairNewsModel", "isHouseWord", "()Z"⟩, prog_14_method_42_code, 2, (Option.some Jvm.ClassFile.FieldType.boolean), 0, 0, 0, xm_c165)
def xm_c166 : List xm_E := [(0, .aload_n 0, 0, 0, [], .null),
  (1, .invokevirtual 87, 132, 0, [], .null),
  (4, .pop, 0, 0, [], .null),
  (5, .aload_n 0, 0, 0, [], .null),
  (6, .getfield 84, 11, 8, [], .null),
  (9, .istore_n 1, 1, 0, [], .null),
  (10, .aload_n 0, 0, 0, [], .null),
  (11, .getfield 138, 11, 11, [], .null),
  (14, .bipush 6, 0, 0, [], .int 6),
  (16, .if_icmp .ne 7, 12, 0, [], .null),
  (19, .iconst 1, 0, 0, [], .int 1),
  (20, .goto 4, 13, 0, [], .null),
  (23, .iconst 0, 0, 0, [], .int 0),
  (24, .istore_n 2, 2, 0, [], .null),
  (25, .iload_n 2, 2, 0, [], .null),
  (26, .ifCond .eq 13, 20, 0, [], .null),
  (29, .aload_n 0, 0, 0, [], .null),
  (30, .invokevirtual 261, 165, 0, [], .null),
  (33, .ifCond .ne 23, 29, 0, [], .null),
  (36, .goto 13, 24, 0, [], .null),
  (39, .aload_n 0, 0, 0, [], .null),
  (40, .ldc2_w 264, 0, 0, [], .long 1952803948),
  (43, .invokevirtual 95, 135, 0, [], .null),
  (46, .ifCond .ne 10, 29, 0, [], .null),
  (49, .aload_n 0, 0, 0, [], .null),
  (50, .iconst 0, 0, 0, [], .int 0),
  (51, .iload_n 1, 1, 0, [], .null),
  (52, .invokevirtual 105, 131, 0, [], .null),
  (55, .ireturn, 0, 0, [], .null),
  (56, .aload_n 0, 0, 0, [], .null),
  (57, .getfield 266, 11, 14, [], .null),
  (60, .iload_n 2, 2, 0, [], .null),
  (61, .ifCond .eq 8, 35, 0, [], .null),
  (64, .bipush 40, 0, 0, [], .int 40),
  (66, .goto 5, 36, 0, [], .null),
  (69, .bipush 12, 0, 0, [], .int 12),
  (71, .if_icmp .ne 10, 42, 0, [], .null),
  (74, .aload_n 0, 0, 0, [], .null),
  (75, .iconst 4, 0, 0, [], .int 4),
  (76, .iload_n 1, 1, 0, [], .null),
  (77, .invokevirtual 105, 131, 0, [], .null),
  (80, .ireturn, 0, 0, [], .null),
  (81, .aload_n 0, 0, 0, [], .null),
  (82, .dup, 0, 0, [], .null),
  (83, .getfield 266, 11, 14, [], .null),
  (86, .iconst 1, 0, 0, [], .int 1),
  (87, .iadd, 0, 0, [], .null),
  (88, .putfield 266, 11, 14, [], .null),
  (91, .iload_n 2, 2, 0, [], .null),
  (92, .ifCond .eq 11, 54, 0, [], .null),
  (95, .aload_n 0, 0, 0, [], .null),
  (96, .iload_n 1, 1, 0, [], .null),
  (97, .invokevirtual 269, 164, 0, [], .null),
  (100, .goto 7, 56, 0, [], .null),
  (103, .aload_n 0, 0, 0, [], .null),
  (104, .invokevirtual 272, 153, 0, [], .null),
  (107, .ireturn, 0, 0, [], .null)]
def xm_m166 : xm_M := (12, ⟨"StairNewsModel", "clauseHere", "()Z"⟩, prog_14_method_43_code, 3, (Option.some Jvm.ClassFile.FieldType.boolean), 0, 0, 0, xm_c166)
def xm_c167 : List xm_E := [(0, .aload_n 0, 0, 0, [], .null),
  (1, .getfield 17, 11, 4, [], .null),
  (4, .aload_n 0, 0, 0, [], .null),
  (5, .getfield 138, 11, 11, [], .null),
  (8, .iconst 0, 0, 0, [], .int 0),
  (9, .iastore, 0, 0, [], .null),
  (10, .aload_n 0, 0, 0, [], .null),
  (11, .iconst 0, 0, 0, [], .int 0),
  (12, .putfield 266, 11, 14, [], .null),
  (15, .aload_n 0, 0, 0, [], .null),
  (16, .iconst 0, 0, 0, [], .int 0),
  (17, .putfield 84, 11, 8, [], .null),
  (20, .aload_n 0, 0, 0, [], .null),
  (21, .iconst 0, 0, 0, [], .int 0),
  (22, .putfield 81, 11, 9, [], .null),
  (25, .aload_n 0, 0, 0, [], .null),
  (26, .iconst 0, 0, 0, [], .int 0),
  (27, .putfield 141, 11, 12, [], .null),
  (30, .aload_n 0, 0, 0, [], .null),
  (31, .invokevirtual 275, 166, 0, [], .null),
  (34, .istore_n 1, 1, 0, [], .null),
  (35, .iload_n 1, 1, 0, [], .null),
  (36, .ifCond .eq 30, 37, 0, [], .null),
  (39, .aload_n 0, 0, 0, [], .null),
  (40, .invokevirtual 87, 132, 0, [], .null),
  (43, .bipush 59, 0, 0, [], .int 59),
  (45, .if_icmp .ne 21, 37, 0, [], .null),
  (48, .aload_n 0, 0, 0, [], .null),
  (49, .dup, 0, 0, [], .null),
  (50, .getfield 84, 11, 8, [], .null),
  (53, .iconst 1, 0, 0, [], .int 1),
  (54, .iadd, 0, 0, [], .null),
  (55, .putfield 84, 11, 8, [], .null),
  (58, .aload_n 0, 0, 0, [], .null),
  (59, .invokevirtual 275, 166, 0, [], .null),
  (62, .istore_n 1, 1, 0, [], .null),
  (63, .goto (-28), 21, 0, [], .null),
  (66, .iload_n 1, 1, 0, [], .null),
  (67, .ifCond .eq 21, 49, 0, [], .null),
  (70, .aload_n 0, 0, 0, [], .null),
  (71, .invokevirtual 87, 132, 0, [], .null),
  (74, .iconst (-1), 0, 0, [], .int (-1)),
  (75, .if_icmp .eq 13, 49, 0, [], .null),
  (78, .aload_n 0, 0, 0, [], .null),
  (79, .iconst 0, 0, 0, [], .int 0),
  (80, .aload_n 0, 0, 0, [], .null),
  (81, .getfield 84, 11, 8, [], .null),
  (84, .invokevirtual 105, 131, 0, [], .null),
  (87, .pop, 0, 0, [], .null),
  (88, .aload_n 0, 0, 0, [], .null),
  (89, .iconst 0, 0, 0, [], .int 0),
  (90, .putfield 74, 11, 1, [], .null),
  (93, .aload_n 0, 0, 0, [], .null),
  (94, .getfield 81, 11, 9, [], .null),
  (97, .ifCond .ne 7, 57, 0, [], .null),
  (100, .iconst 1, 0, 0, [], .int 1),
  (101, .goto 4, 58, 0, [], .null),
  (104, .iconst 0, 0, 0, [], .int 0),
  (105, .ireturn, 0, 0, [], .null)]
def xm_m167 : xm_M := (12, ⟨"StairNewsModel", "readsAll", "()Z"⟩, prog_14_method_44_code, 2, (Option.some Jvm.ClassFile.FieldType.boolean), 0, 0, 0, xm_c167)
def xm_c168 : List xm_E := [(0, .aload_n 0, 0, 0, [], .null),
  (1, .getfield 278, 11, 2, [], .null),
  (4, .bipush 6, 0, 0, [], .int 6),
  (6, .if_icmp .ne 5, 6, 0, [], .null),
  (9, .iconst (-1), 0, 0, [], .int (-1)),
  (10, .ireturn, 0, 0, [], .null),
  (11, .aload_n 0, 0, 0, [], .null),
  (12, .aload_n 0, 0, 0, [], .null),
  (13, .getfield 278, 11, 2, [], .null),
  (16, .putfield 138, 11, 11, [], .null),
  (19, .aload_n 0, 0, 0, [], .null),
  (20, .getfield 23, 11, 6, [], .null),
  (23, .aload_n 0, 0, 0, [], .null),
  (24, .getfield 138, 11, 11, [], .null),
  (27, .iconst 0, 0, 0, [], .int 0),
  (28, .iastore, 0, 0, [], .null),
  (29, .aload_n 0, 0, 0, [], .null),
  (30, .invokevirtual 281, 167, 0, [], .null),
  (33, .ifCond .ne 11, 24, 0, [], .null),
  (36, .bipush (-2), 0, 0, [], .int (-2)),
  (38, .aload_n 0, 0, 0, [], .null),
  (39, .getfield 81, 11, 9, [], .null),
  (42, .isub, 0, 0, [], .null),
  (43, .ireturn, 0, 0, [], .null),
  (44, .aload_n 0, 0, 0, [], .null),
  (45, .dup, 0, 0, [], .null),
  (46, .getfield 278, 11, 2, [], .null),
  (49, .iconst 1, 0, 0, [], .int 1),
  (50, .iadd, 0, 0, [], .null),
  (51, .putfield 278, 11, 2, [], .null),
  (54, .aload_n 0, 0, 0, [], .null),
  (55, .getfield 278, 11, 2, [], .null),
  (58, .iconst 1, 0, 0, [], .int 1),
  (59, .isub, 0, 0, [], .null),
  (60, .ireturn, 0, 0, [], .null)]
def xm_m168 : xm_M := (12, ⟨"StairNewsModel", "rule", "()I"⟩, prog_14_method_45_code, 1, (Option.some Jvm.ClassFile.FieldType.int), 0, 0, 0, xm_c168)
def xm_c169 : List xm_E := [(0, .aload_n 0, 0, 0, [], .null),
  (1, .bipush 6, 0, 0, [], .int 6),
  (3, .putfield 138, 11, 11, [], .null),
  (6, .iconst 0, 0, 0, [], .int 0),
  (7, .istore_n 1, 1, 0, [], .null),
  (8, .iload_n 1, 1, 0, [], .null),
  (9, .bipush 10, 0, 0, [], .int 10),
  (11, .if_icmp .ge 37, 26, 0, [], .null),
  (14, .aload_n 0, 0, 0, [], .null),
  (15, .getfield 26, 11, 7, [], .null),
  (18, .iload_n 1, 1, 0, [], .null),
  (19, .iload_n 1, 1, 0, [], .null),
  (20, .iconst 5, 0, 0, [], .int 5),
  (21, .if_icmp .eq 15, 20, 0, [], .null),
  (24, .iload_n 1, 1, 0, [], .null),
  (25, .bipush 6, 0, 0, [], .int 6),
  (27, .if_icmp .eq 9, 20, 0, [], .null),
  (30, .iload_n 1, 1, 0, [], .null),
  (31, .bipush 7, 0, 0, [], .int 7),
  (33, .if_icmp .ne 7, 22, 0, [], .null),
  (36, .iconst (-1), 0, 0, [], .int (-1)),
  (37, .goto 4, 23, 0, [], .null),
  (40, .iconst 0, 0, 0, [], .int 0),
  (41, .iastore, 0, 0, [], .null),
  (42, .iinc 1 1, 1, 0, [], .int 1),
  (45, .goto (-37), 5, 0, [], .null),
  (48, .aload_n 0, 0, 0, [], .null),
  (49, .invokevirtual 281, 167, 0, [], .null),
  (52, .ifCond .ne 11, 34, 0, [], .null),
  (55, .bipush (-2), 0, 0, [], .int (-2)),
  (57, .aload_n 0, 0, 0, [], .null),
  (58, .getfield 81, 11, 9, [], .null),
  (61, .isub, 0, 0, [], .null),
  (62, .ireturn, 0, 0, [], .null),
  (63, .iconst 0, 0, 0, [], .int 0),
  (64, .istore_n 1, 1, 0, [], .null),
  (65, .iload_n 1, 1, 0, [], .null),
  (66, .sipush 146, 0, 0, [], .int 146),
  (69, .if_icmp .ge 31, 54, 0, [], .null),
  (72, .aload_n 0, 0, 0, [], .null),
  (73, .getfield 39, 11, 20, [], .null),
  (76, .iload_n 1, 1, 0, [], .null),
  (77, .iload_n 1, 1, 0, [], .null),
  (78, .bipush 117, 0, 0, [], .int 117),
  (80, .if_icmp .ge 12, 50, 0, [], .null),
  (83, .aload_n 0, 0, 0, [], .null),
  (84, .getfield 26, 11, 7, [], .null),
  (87, .iload_n 1, 1, 0, [], .null),
  (88, .iaload, 0, 0, [], .null),
  (89, .goto 4, 51, 0, [], .null),
  (92, .iconst 0, 0, 0, [], .int 0),
  (93, .iastore, 0, 0, [], .null),
  (94, .iinc 1 1, 1, 0, [], .int 1),
  (97, .goto (-32), 36, 0, [], .null),
  (100, .iconst 0, 0, 0, [], .int 0),
  (101, .istore_n 1, 1, 0, [], .null),
  (102, .iload_n 1, 1, 0, [], .null),
  (103, .aload_n 0, 0, 0, [], .null),
  (104, .getfield 39, 11, 20, [], .null),
  (107, .iconst 1, 0, 0, [], .int 1),
  (108, .iaload, 0, 0, [], .null),
  (109, .if_icmp .ge 25, 74, 0, [], .null),
  (112, .aload_n 0, 0, 0, [], .null),
  (113, .getfield 39, 11, 20, [], .null),
  (116, .sipush 138, 0, 0, [], .int 138),
  (119, .iload_n 1, 1, 0, [], .null),
  (120, .iadd, 0, 0, [], .null),
  (121, .aload_n 0, 0, 0, [], .null),
  (122, .iload_n 1, 1, 0, [], .null),
  (123, .iconst 3, 0, 0, [], .int 3),
  (124, .invokevirtual 284, 178, 0, [], .null),
  (127, .iastore, 0, 0, [], .null),
  (128, .iinc 1 1, 1, 0, [], .int 1),
  (131, .goto (-29), 56, 0, [], .null),
  (134, .aload_n 0, 0, 0, [], .null),
  (135, .getfield 39, 11, 20, [], .null),
  (138, .sipush 145, 0, 0, [], .int 145),
  (141, .aload_n 0, 0, 0, [], .null),
  (142, .getfield 39, 11, 20, [], .null),
  (145, .bipush 8, 0, 0, [], .int 8),
  (147, .iaload, 0, 0, [], .null),
  (148, .iastore, 0, 0, [], .null),
  (149, .aload_n 0, 0, 0, [], .null),
  (150, .iconst 0, 0, 0, [], .int 0),
  (151, .putfield 288, 11, 26, [], .null),
  (154, .aload_n 0, 0, 0, [], .null),
  (155, .getfield 39, 11, 20, [], .null),
  (158, .iconst 1, 0, 0, [], .int 1),
  (159, .iaload, 0, 0, [], .null),
  (160, .ireturn, 0, 0, [], .null)]
def xm_m169 : xm_M := (12, ⟨"StairNewsModel", "house", "()I"⟩, prog_14_method_46_code, 2, (Option.some Jvm.ClassFile.FieldType.int), 0, 0, 0, xm_c169)
def xm_c170 : List xm_E := [(0, .iload_n 1, 1, 0, [], .null),
  (1, .ifCond .lt 15, 8, 0, [], .null),
  (4, .iload_n 1, 1, 0, [], .null),
  (5, .aload_n 0, 0, 0, [], .null),
  (6, .getfield 278, 11, 2, [], .null),
  (9, .if_icmp .ge 7, 8, 0, [], .null),
  (12, .iconst 1, 0, 0, [], .int 1),
  (13, .goto 4, 9, 0, [], .null),
  (16, .iconst 0, 0, 0, [], .int 0),
  (17, .ireturn, 0, 0, [], .null)]
def xm_m170 : xm_M := (12, ⟨"StairNewsModel", "isRule", "(I)Z"⟩, prog_14_method_47_code, 2, (Option.some Jvm.ClassFile.FieldType.boolean), 1, 0, 0, xm_c170)
def xm_c171 : List xm_E := [(0, .aload_n 0, 0, 0, [], .null),
  (1, .getfield 32, 11, 17, [], .null),
  (4, .aload_n 0, 0, 0, [], .null),
  (5, .getfield 291, 11, 18, [], .null),
  (8, .lload_n 1, 1, 0, [], .null),
  (9, .lastore, 0, 0, [], .null),
  (10, .aload_n 0, 0, 0, [], .null),
  (11, .dup, 0, 0, [], .null),
  (12, .getfield 291, 11, 18, [], .null),
  (15, .iconst 1, 0, 0, [], .int 1),
  (16, .iadd, 0, 0, [], .null),
  (17, .putfield 291, 11, 18, [], .null),
  (20, .return_, 0, 0, [], .null)]
def xm_m171 : xm_M := (12, ⟨"StairNewsModel", "push", "(J)V"⟩, prog_14_method_48_code, 3, (Option.none : Option Jvm.ClassFile.FieldType), 1, 0, 0, xm_c171)
def xm_c172 : List xm_E := [(0, .aload_n 0, 0, 0, [], .null),
  (1, .dup, 0, 0, [], .null),
  (2, .getfield 291, 11, 18, [], .null),
  (5, .iconst 1, 0, 0, [], .int 1),
  (6, .isub, 0, 0, [], .null),
  (7, .putfield 291, 11, 18, [], .null),
  (10, .aload_n 0, 0, 0, [], .null),
  (11, .getfield 32, 11, 17, [], .null),
  (14, .aload_n 0, 0, 0, [], .null),
  (15, .getfield 291, 11, 18, [], .null),
  (18, .laload, 0, 0, [], .null),
  (19, .lreturn, 0, 0, [], .null)]
def xm_m172 : xm_M := (12, ⟨"StairNewsModel", "pop", "()J"⟩, prog_14_method_49_code, 1, (Option.some Jvm.ClassFile.FieldType.long), 0, 0, 0, xm_c172)
def xm_c173 : List xm_E := [(0, .iload_n 0, 0, 0, [], .null),
  (1, .tableswitch 171 2 14 #[67, 71, 75, 79, 107, 119, 131, 143, 155, 171, 167, 171, 93], 78, 0, [2, 6, 10, 14, 34, 42, 50, 58, 66, 78, 74, 78, 24], .null),
  (68, .lload_n 1, 1, 0, [], .null),
  (69, .lload_n 3, 3, 0, [], .null),
  (70, .ladd, 0, 0, [], .null),
  (71, .lreturn, 0, 0, [], .null),
  (72, .lload_n 1, 1, 0, [], .null),
  (73, .lload_n 3, 3, 0, [], .null),
  (74, .lsub, 0, 0, [], .null),
  (75, .lreturn, 0, 0, [], .null),
  (76, .lload_n 1, 1, 0, [], .null),
  (77, .lload_n 3, 3, 0, [], .null),
  (78, .lmul, 0, 0, [], .null),
  (79, .lreturn, 0, 0, [], .null),
  (80, .lload_n 3, 3, 0, [], .null),
  (81, .lconst 0, 0, 0, [], .long 0),
  (82, .lcmp, 0, 0, [], .null),
  (83, .ifCond .ne 7, 20, 0, [], .null),
  (86, .lconst 0, 0, 0, [], .long 0),
  (87, .goto 6, 23, 0, [], .null),
  (90, .lload_n 1, 1, 0, [], .null),
  (91, .lload_n 3, 3, 0, [], .null),
  (92, .ldiv, 0, 0, [], .null),
  (93, .lreturn, 0, 0, [], .null),
  (94, .lload_n 3, 3, 0, [], .null),
  (95, .lconst 0, 0, 0, [], .long 0),
  (96, .lcmp, 0, 0, [], .null),
  (97, .ifCond .ne 7, 30, 0, [], .null),
  (100, .lconst 0, 0, 0, [], .long 0),
  (101, .goto 6, 33, 0, [], .null),
  (104, .lload_n 1, 1, 0, [], .null),
  (105, .lload_n 3, 3, 0, [], .null),
  (106, .lrem, 0, 0, [], .null),
  (107, .lreturn, 0, 0, [], .null),
  (108, .lload_n 1, 1, 0, [], .null),
  (109, .lload_n 3, 3, 0, [], .null),
  (110, .lcmp, 0, 0, [], .null),
  (111, .ifCond .ge 7, 40, 0, [], .null),
  (114, .lconst 1, 0, 0, [], .long 1),
  (115, .goto 4, 41, 0, [], .null),
  (118, .lconst 0, 0, 0, [], .long 0),
  (119, .lreturn, 0, 0, [], .null),
  (120, .lload_n 1, 1, 0, [], .null),
  (121, .lload_n 3, 3, 0, [], .null),
  (122, .lcmp, 0, 0, [], .null),
  (123, .ifCond .gt 7, 48, 0, [], .null),
  (126, .lconst 1, 0, 0, [], .long 1),
  (127, .goto 4, 49, 0, [], .null),
  (130, .lconst 0, 0, 0, [], .long 0),
  (131, .lreturn, 0, 0, [], .null),
  (132, .lload_n 1, 1, 0, [], .null),
  (133, .lload_n 3, 3, 0, [], .null),
  (134, .lcmp, 0, 0, [], .null),
  (135, .ifCond .ne 7, 56, 0, [], .null),
  (138, .lconst 1, 0, 0, [], .long 1),
  (139, .goto 4, 57, 0, [], .null),
  (142, .lconst 0, 0, 0, [], .long 0),
  (143, .lreturn, 0, 0, [], .null),
  (144, .lload_n 1, 1, 0, [], .null),
  (145, .lload_n 3, 3, 0, [], .null),
  (146, .lcmp, 0, 0, [], .null),
  (147, .ifCond .lt 7, 64, 0, [], .null),
  (150, .lconst 1, 0, 0, [], .long 1),
  (151, .goto 4, 65, 0, [], .null),
  (154, .lconst 0, 0, 0, [], .long 0),
  (155, .lreturn, 0, 0, [], .null),
  (156, .lload_n 1, 1, 0, [], .null),
  (157, .lload_n 3, 3, 0, [], .null),
  (158, .lcmp, 0, 0, [], .null),
  (159, .ifCond .le 7, 72, 0, [], .null),
  (162, .lconst 1, 0, 0, [], .long 1),
  (163, .goto 4, 73, 0, [], .null),
  (166, .lconst 0, 0, 0, [], .long 0),
  (167, .lreturn, 0, 0, [], .null),
  (168, .lload_n 1, 1, 0, [], .null),
  (169, .lload_n 3, 3, 0, [], .null),
  (170, .land, 0, 0, [], .null),
  (171, .lreturn, 0, 0, [], .null),
  (172, .lload_n 1, 1, 0, [], .null),
  (173, .lload_n 3, 3, 0, [], .null),
  (174, .lor, 0, 0, [], .null),
  (175, .lreturn, 0, 0, [], .null)]
def xm_m173 : xm_M := (12, ⟨"StairNewsModel", "one", "(IJJ)J"⟩, prog_14_method_50_code, 5, (Option.some Jvm.ClassFile.FieldType.long), 3, 0, 0, xm_c173)
def xm_c174 : List xm_E := [(0, .aload_n 0, 0, 0, [], .null),
  (1, .iconst 0, 0, 0, [], .int 0),
  (2, .putfield 291, 11, 18, [], .null),
  (5, .iload_n 2, 2, 0, [], .null),
  (6, .istore 4, 4, 0, [], .null),
  (8, .iload 4, 4, 0, [], .null),
  (10, .iload_n 3, 3, 0, [], .null),
  (11, .if_icmp .ge 124, 71, 0, [], .null),
  (14, .aload_n 0, 0, 0, [], .null),
  (15, .getfield 13, 11, 3, [], .null),
  (18, .sipush 400, 0, 0, [], .int 400),
  (21, .iload_n 1, 1, 0, [], .null),
  (22, .imul, 0, 0, [], .null),
  (23, .iload 4, 4, 0, [], .null),
  (25, .iadd, 0, 0, [], .null),
  (26, .iaload, 0, 0, [], .null),
  (27, .bipush 15, 0, 0, [], .int 15),
  (29, .iand, 0, 0, [], .null),
  (30, .istore 5, 5, 0, [], .null),
  (32, .aload_n 0, 0, 0, [], .null),
  (33, .getfield 13, 11, 3, [], .null),
  (36, .sipush 400, 0, 0, [], .int 400),
  (39, .iload_n 1, 1, 0, [], .null),
  (40, .imul, 0, 0, [], .null),
  (41, .iload 4, 4, 0, [], .null),
  (43, .iadd, 0, 0, [], .null),
  (44, .iaload, 0, 0, [], .null),
  (45, .iconst 4, 0, 0, [], .int 4),
  (46, .ishr, 0, 0, [], .null),
  (47, .istore 6, 6, 0, [], .null),
  (49, .iload 5, 5, 0, [], .null),
  (51, .ifCond .ne 13, 37, 0, [], .null),
  (54, .aload_n 0, 0, 0, [], .null),
  (55, .iload 6, 6, 0, [], .null),
  (57, .i2l, 0, 0, [], .null),
  (58, .invokevirtual 294, 171, 0, [], .null),
  (61, .goto 68, 69, 0, [], .null),
  (64, .iload 5, 5, 0, [], .null),
  (66, .iconst 1, 0, 0, [], .int 1),
  (67, .if_icmp .ne 17, 47, 0, [], .null),
  (70, .aload_n 0, 0, 0, [], .null),
  (71, .aload_n 0, 0, 0, [], .null),
  (72, .getfield 36, 11, 19, [], .null),
  (75, .iload 6, 6, 0, [], .null),
  (77, .laload, 0, 0, [], .null),
  (78, .invokevirtual 294, 171, 0, [], .null),
  (81, .goto 48, 69, 0, [], .null),
  (84, .iload 5, 5, 0, [], .null),
  (86, .bipush 11, 0, 0, [], .int 11),
  (88, .if_icmp .ne 16, 57, 0, [], .null),
  (91, .aload_n 0, 0, 0, [], .null),
  (92, .lconst 1, 0, 0, [], .long 1),
  (93, .aload_n 0, 0, 0, [], .null),
  (94, .invokevirtual 298, 172, 0, [], .null),
  (97, .lsub, 0, 0, [], .null),
  (98, .invokevirtual 294, 171, 0, [], .null),
  (101, .goto 28, 69, 0, [], .null),
  (104, .aload_n 0, 0, 0, [], .null),
  (105, .invokevirtual 298, 172, 0, [], .null),
  (108, .lstore 7, 7, 0, [], .null),
  (110, .aload_n 0, 0, 0, [], .null),
  (111, .invokevirtual 298, 172, 0, [], .null),
  (114, .lstore 9, 9, 0, [], .null),
  (116, .aload_n 0, 0, 0, [], .null),
  (117, .iload 5, 5, 0, [], .null),
  (119, .lload 9, 9, 0, [], .null),
  (121, .lload 7, 7, 0, [], .null),
  (123, .invokestatic 302, 173, 1, [], .null),
  (126, .invokevirtual 294, 171, 0, [], .null),
  (129, .iinc 4 1, 4, 0, [], .int 1),
  (132, .goto (-124), 5, 0, [], .null),
  (135, .aload_n 0, 0, 0, [], .null),
  (136, .invokevirtual 298, 172, 0, [], .null),
  (139, .lreturn, 0, 0, [], .null)]
def xm_m174 : xm_M := (12, ⟨"StairNewsModel", "reckons", "(III)J"⟩, prog_14_method_51_code, 11, (Option.some Jvm.ClassFile.FieldType.long), 3, 0, 0, xm_c174)
def xm_c175 : List xm_E := [(0, .aload_n 0, 0, 0, [], .null),
  (1, .getfield 39, 11, 20, [], .null),
  (4, .iconst 0, 0, 0, [], .int 0),
  (5, .iaload, 0, 0, [], .null),
  (6, .ifCond .le 7, 7, 0, [], .null),
  (9, .iconst 1, 0, 0, [], .int 1),
  (10, .goto 4, 8, 0, [], .null),
  (13, .iconst 0, 0, 0, [], .int 0),
  (14, .ireturn, 0, 0, [], .null)]
def xm_m175 : xm_M := (12, ⟨"StairNewsModel", "isHouse", "()Z"⟩, prog_14_method_52_code, 1, (Option.some Jvm.ClassFile.FieldType.boolean), 0, 0, 0, xm_c175)
def xm_c176 : List xm_E := [(0, .iload_n 1, 1, 0, [], .null),
  (1, .ifCond .lt 17, 10, 0, [], .null),
  (4, .iload_n 1, 1, 0, [], .null),
  (5, .aload_n 0, 0, 0, [], .null),
  (6, .getfield 39, 11, 20, [], .null),
  (9, .iconst 1, 0, 0, [], .int 1),
  (10, .iaload, 0, 0, [], .null),
  (11, .if_icmp .ge 7, 10, 0, [], .null),
  (14, .iconst 1, 0, 0, [], .int 1),
  (15, .goto 4, 11, 0, [], .null),
  (18, .iconst 0, 0, 0, [], .int 0),
  (19, .ireturn, 0, 0, [], .null)]
def xm_m176 : xm_M := (12, ⟨"StairNewsModel", "isPerson", "(I)Z"⟩, prog_14_method_53_code, 2, (Option.some Jvm.ClassFile.FieldType.boolean), 1, 0, 0, xm_c176)
def xm_c177 : List xm_E := [(0, .iload_n 1, 1, 0, [], .null),
  (1, .ifCond .lt 17, 10, 0, [], .null),
  (4, .iload_n 1, 1, 0, [], .null),
  (5, .aload_n 0, 0, 0, [], .null),
  (6, .getfield 39, 11, 20, [], .null),
  (9, .iconst 0, 0, 0, [], .int 0),
  (10, .iaload, 0, 0, [], .null),
  (11, .if_icmp .ge 7, 10, 0, [], .null),
  (14, .iconst 1, 0, 0, [], .int 1),
  (15, .goto 4, 11, 0, [], .null),
  (18, .iconst 0, 0, 0, [], .int 0),
  (19, .ireturn, 0, 0, [], .null)]
def xm_m177 : xm_M := (12, ⟨"StairNewsModel", "isFloor", "(I)Z"⟩, prog_14_method_54_code, 2, (Option.some Jvm.ClassFile.FieldType.boolean), 1, 0, 0, xm_c177)
def xm_c178 : List xm_E := [(0, .aload_n 0, 0, 0, [], .null),
  (1, .getfield 39, 11, 20, [], .null),
  (4, .bipush 10, 0, 0, [], .int 10),
  (6, .bipush 11, 0, 0, [], .int 11),
  (8, .iload_n 1, 1, 0, [], .null),
  (9, .imul, 0, 0, [], .null),
  (10, .iadd, 0, 0, [], .null),
  (11, .iload_n 2, 2, 0, [], .null),
  (12, .iadd, 0, 0, [], .null),
  (13, .iaload, 0, 0, [], .null),
  (14, .ireturn, 0, 0, [], .null)]
def xm_m178 : xm_M := (12, ⟨"StairNewsModel", "personOf", "(II)I"⟩, prog_14_method_55_code, 3, (Option.some Jvm.ClassFile.FieldType.int), 2, 0, 0, xm_c178)
def xm_c179 : List xm_E := [(0, .aload_n 0, 0, 0, [], .null),
  (1, .iload_n 1, 1, 0, [], .null),
  (2, .bipush 8, 0, 0, [], .int 8),
  (4, .invokevirtual 284, 178, 0, [], .null),
  (7, .ifCond .lt 7, 7, 0, [], .null),
  (10, .iconst 1, 0, 0, [], .int 1),
  (11, .goto 4, 8, 0, [], .null),
  (14, .iconst 0, 0, 0, [], .int 0),
  (15, .ireturn, 0, 0, [], .null)]
def xm_m179 : xm_M := (12, ⟨"StairNewsModel", "knowsOf", "(I)Z"⟩, prog_14_method_56_code, 2, (Option.some Jvm.ClassFile.FieldType.boolean), 1, 0, 0, xm_c179)
def xm_c180 : List xm_E := [(0, .aload_n 0, 0, 0, [], .null),
  (1, .iload_n 1, 1, 0, [], .null),
  (2, .iconst 0, 0, 0, [], .int 0),
  (3, .invokevirtual 284, 178, 0, [], .null),
  (6, .aload_n 0, 0, 0, [], .null),
  (7, .iload_n 1, 1, 0, [], .null),
  (8, .iconst 1, 0, 0, [], .int 1),
  (9, .invokevirtual 284, 178, 0, [], .null),
  (12, .if_icmp .ne 7, 11, 0, [], .null),
  (15, .iconst 1, 0, 0, [], .int 1),
  (16, .goto 4, 12, 0, [], .null),
  (19, .iconst 0, 0, 0, [], .int 0),
  (20, .ireturn, 0, 0, [], .null)]
def xm_m180 : xm_M := (12, ⟨"StairNewsModel", "isStanding", "(I)Z"⟩, prog_14_method_57_code, 2, (Option.some Jvm.ClassFile.FieldType.boolean), 1, 0, 0, xm_c180)
end
section
def xm_c181 : List xm_E := [(0, .iconst 0, 0, 0, [], .int 0),
  (1, .istore_n 1, 1, 0, [], .null),
  (2, .iconst 0, 0, 0, [], .int 0),
  (3, .istore_n 2, 2, 0, [], .null),
  (4, .iload_n 2, 2, 0, [], .null),
  (5, .aload_n 0, 0, 0, [], .null),
  (6, .getfield 39, 11, 20, [], .null),
  (9, .iconst 1, 0, 0, [], .int 1),
  (10, .iaload, 0, 0, [], .null),
  (11, .if_icmp .ge 27, 24, 0, [], .null),
  (14, .iload_n 1, 1, 0, [], .null),
  (15, .aload_n 0, 0, 0, [], .null),
  (16, .iload_n 2, 2, 0, [], .null),
  (17, .invokevirtual 306, 179, 0, [], .null),
  (20, .ifCond .eq 9, 19, 0, [], .null),
  (23, .iconst 1, 0, 0, [], .int 1),
  (24, .iload_n 2, 2, 0, [], .null),
  (25, .ishl, 0, 0, [], .null),
  (26, .goto 4, 20, 0, [], .null),
  (29, .iconst 0, 0, 0, [], .int 0),
  (30, .ior, 0, 0, [], .null),
  (31, .istore_n 1, 1, 0, [], .null),
  (32, .iinc 2 1, 2, 0, [], .int 1),
  (35, .goto (-31), 4, 0, [], .null),
  (38, .iload_n 1, 1, 0, [], .null),
  (39, .ireturn, 0, 0, [], .null)]
def xm_m181 : xm_M := (12, ⟨"StairNewsModel", "knowing", "()I"⟩, prog_14_method_58_code, 3, (Option.some Jvm.ClassFile.FieldType.int), 0, 0, 0, xm_c181)
def xm_c182 : List xm_E := [(0, .aload_n 0, 0, 0, [], .null),
  (1, .getfield 39, 11, 20, [], .null),
  (4, .iconst 5, 0, 0, [], .int 5),
  (5, .iaload, 0, 0, [], .null),
  (6, .ifCond .lt 17, 13, 0, [], .null),
  (9, .iload_n 1, 1, 0, [], .null),
  (10, .aload_n 0, 0, 0, [], .null),
  (11, .getfield 39, 11, 20, [], .null),
  (14, .iconst 5, 0, 0, [], .int 5),
  (15, .iaload, 0, 0, [], .null),
  (16, .if_icmp .lt 7, 13, 0, [], .null),
  (19, .iconst 1, 0, 0, [], .int 1),
  (20, .goto 4, 14, 0, [], .null),
  (23, .iconst 0, 0, 0, [], .int 0),
  (24, .ireturn, 0, 0, [], .null)]
def xm_m182 : xm_M := (12, ⟨"StairNewsModel", "isNight", "(I)Z"⟩, prog_14_method_59_code, 2, (Option.some Jvm.ClassFile.FieldType.boolean), 1, 0, 0, xm_c182)
def xm_c183 : List xm_E := [(0, .iload_n 1, 1, 0, [], .null),
  (1, .iconst (-1), 0, 0, [], .int (-1)),
  (2, .if_icmp .eq 14, 9, 0, [], .null),
  (5, .aload_n 0, 0, 0, [], .null),
  (6, .iload_n 1, 1, 0, [], .null),
  (7, .invokevirtual 309, 170, 0, [], .null),
  (10, .ifCond .ne 6, 9, 0, [], .null),
  (13, .bipush (-2), 0, 0, [], .int (-2)),
  (15, .ireturn, 0, 0, [], .null),
  (16, .aload_n 0, 0, 0, [], .null),
  (17, .getfield 42, 11, 21, [], .null),
  (20, .istore_n 2, 2, 0, [], .null),
  (21, .aload_n 0, 0, 0, [], .null),
  (22, .iload_n 1, 1, 0, [], .null),
  (23, .putfield 42, 11, 21, [], .null),
  (26, .iload_n 2, 2, 0, [], .null),
  (27, .ireturn, 0, 0, [], .null)]
def xm_m183 : xm_M := (12, ⟨"StairNewsModel", "force", "(I)I"⟩, prog_14_method_60_code, 3, (Option.some Jvm.ClassFile.FieldType.int), 1, 0, 0, xm_c183)
def xm_c184 : List xm_E := [(0, .aload_n 0, 0, 0, [], .null),
  (1, .iload_n 1, 1, 0, [], .null),
  (2, .invokevirtual 312, 176, 0, [], .null),
  (5, .ifCond .eq 24, 15, 0, [], .null),
  (8, .iload_n 2, 2, 0, [], .null),
  (9, .i2l, 0, 0, [], .null),
  (10, .lconst 0, 0, 0, [], .long 0),
  (11, .ldc2_w 315, 0, 0, [], .long 7),
  (14, .invokestatic 112, 125, 1, [], .null),
  (17, .ifCond .eq 12, 15, 0, [], .null),
  (20, .aload_n 0, 0, 0, [], .null),
  (21, .iload_n 1, 1, 0, [], .null),
  (22, .iload_n 2, 2, 0, [], .null),
  (23, .invokevirtual 284, 178, 0, [], .null),
  (26, .goto 6, 16, 0, [], .null),
  (29, .sipush (-1000), 0, 0, [], .int (-1000)),
  (32, .ireturn, 0, 0, [], .null)]
def xm_m184 : xm_M := (12, ⟨"StairNewsModel", "person", "(II)I"⟩, prog_14_method_61_code, 3, (Option.some Jvm.ClassFile.FieldType.int), 2, 0, 0, xm_c184)
def xm_c185 : List xm_E := [(0, .aload_n 0, 0, 0, [], .null),
  (1, .iload_n 1, 1, 0, [], .null),
  (2, .invokevirtual 312, 176, 0, [], .null),
  (5, .ifCond .eq 27, 17, 0, [], .null),
  (8, .iload_n 2, 2, 0, [], .null),
  (9, .i2l, 0, 0, [], .null),
  (10, .lconst 0, 0, 0, [], .long 0),
  (11, .ldc2_w 317, 0, 0, [], .long 2),
  (14, .invokestatic 112, 125, 1, [], .null),
  (17, .ifCond .eq 15, 17, 0, [], .null),
  (20, .aload_n 0, 0, 0, [], .null),
  (21, .iload_n 1, 1, 0, [], .null),
  (22, .bipush 8, 0, 0, [], .int 8),
  (24, .iload_n 2, 2, 0, [], .null),
  (25, .iadd, 0, 0, [], .null),
  (26, .invokevirtual 284, 178, 0, [], .null),
  (29, .goto 6, 18, 0, [], .null),
  (32, .sipush (-1000), 0, 0, [], .int (-1000)),
  (35, .ireturn, 0, 0, [], .null)]
def xm_m185 : xm_M := (12, ⟨"StairNewsModel", "knows", "(II)I"⟩, prog_14_method_62_code, 3, (Option.some Jvm.ClassFile.FieldType.int), 2, 0, 0, xm_c185)
def xm_c186 : List xm_E := [(0, .aload_n 0, 0, 0, [], .null),
  (1, .iload_n 1, 1, 0, [], .null),
  (2, .invokevirtual 319, 177, 0, [], .null),
  (5, .ifCond .eq 15, 10, 0, [], .null),
  (8, .iload_n 2, 2, 0, [], .null),
  (9, .i2l, 0, 0, [], .null),
  (10, .lconst 0, 0, 0, [], .long 0),
  (11, .ldc2_w 317, 0, 0, [], .long 2),
  (14, .invokestatic 112, 125, 1, [], .null),
  (17, .ifCond .ne 5, 12, 0, [], .null),
  (20, .iconst (-1), 0, 0, [], .int (-1)),
  (21, .ireturn, 0, 0, [], .null),
  (22, .iload_n 2, 2, 0, [], .null),
  (23, .ifCond .le 17, 25, 0, [], .null),
  (26, .aload_n 0, 0, 0, [], .null),
  (27, .getfield 39, 11, 20, [], .null),
  (30, .bipush 7, 0, 0, [], .int 7),
  (32, .iload_n 2, 2, 0, [], .null),
  (33, .iadd, 0, 0, [], .null),
  (34, .iaload, 0, 0, [], .null),
  (35, .iload_n 1, 1, 0, [], .null),
  (36, .ishr, 0, 0, [], .null),
  (37, .iconst 1, 0, 0, [], .int 1),
  (38, .iand, 0, 0, [], .null),
  (39, .ireturn, 0, 0, [], .null),
  (40, .iconst 0, 0, 0, [], .int 0),
  (41, .istore_n 3, 3, 0, [], .null),
  (42, .iconst 0, 0, 0, [], .int 0),
  (43, .istore 4, 4, 0, [], .null),
  (45, .iload 4, 4, 0, [], .null),
  (47, .aload_n 0, 0, 0, [], .null),
  (48, .getfield 39, 11, 20, [], .null),
  (51, .iconst 1, 0, 0, [], .int 1),
  (52, .iaload, 0, 0, [], .null),
  (53, .if_icmp .ge 31, 51, 0, [], .null),
  (56, .iload_n 3, 3, 0, [], .null),
  (57, .aload_n 0, 0, 0, [], .null),
  (58, .iload 4, 4, 0, [], .null),
  (60, .iconst 0, 0, 0, [], .int 0),
  (61, .invokevirtual 284, 178, 0, [], .null),
  (64, .iload_n 1, 1, 0, [], .null),
  (65, .if_icmp .ne 10, 46, 0, [], .null),
  (68, .iconst 1, 0, 0, [], .int 1),
  (69, .iload 4, 4, 0, [], .null),
  (71, .ishl, 0, 0, [], .null),
  (72, .goto 4, 47, 0, [], .null),
  (75, .iconst 0, 0, 0, [], .int 0),
  (76, .ior, 0, 0, [], .null),
  (77, .istore_n 3, 3, 0, [], .null),
  (78, .iinc 4 1, 4, 0, [], .int 1),
  (81, .goto (-36), 29, 0, [], .null),
  (84, .iload_n 3, 3, 0, [], .null),
  (85, .ireturn, 0, 0, [], .null)]
def xm_m186 : xm_M := (12, ⟨"StairNewsModel", "floor", "(II)I"⟩, prog_14_method_63_code, 5, (Option.some Jvm.ClassFile.FieldType.int), 2, 0, 0, xm_c186)
def xm_c187 : List xm_E := [(0, .aload_n 0, 0, 0, [], .null),
  (1, .getfield 39, 11, 20, [], .null),
  (4, .bipush 10, 0, 0, [], .int 10),
  (6, .bipush 11, 0, 0, [], .int 11),
  (8, .iload_n 1, 1, 0, [], .null),
  (9, .imul, 0, 0, [], .null),
  (10, .iadd, 0, 0, [], .null),
  (11, .iconst 1, 0, 0, [], .int 1),
  (12, .iadd, 0, 0, [], .null),
  (13, .iload_n 2, 2, 0, [], .null),
  (14, .iastore, 0, 0, [], .null),
  (15, .aload_n 0, 0, 0, [], .null),
  (16, .getfield 39, 11, 20, [], .null),
  (19, .bipush 10, 0, 0, [], .int 10),
  (21, .bipush 11, 0, 0, [], .int 11),
  (23, .iload_n 1, 1, 0, [], .null),
  (24, .imul, 0, 0, [], .null),
  (25, .iadd, 0, 0, [], .null),
  (26, .iconst 2, 0, 0, [], .int 2),
  (27, .iadd, 0, 0, [], .null),
  (28, .aload_n 0, 0, 0, [], .null),
  (29, .iload_n 1, 1, 0, [], .null),
  (30, .iconst 3, 0, 0, [], .int 3),
  (31, .invokevirtual 284, 178, 0, [], .null),
  (34, .iastore, 0, 0, [], .null),
  (35, .return_, 0, 0, [], .null)]
def xm_m187 : xm_M := (12, ⟨"StairNewsModel", "setsOut", "(II)V"⟩, prog_14_method_64_code, 3, (Option.none : Option Jvm.ClassFile.FieldType), 2, 0, 0, xm_c187)
def xm_c188 : List xm_E := [(0, .iconst (-1), 0, 0, [], .int (-1)),
  (1, .istore_n 3, 3, 0, [], .null),
  (2, .iconst 0, 0, 0, [], .int 0),
  (3, .istore 4, 4, 0, [], .null),
  (5, .iload 4, 4, 0, [], .null),
  (7, .aload_n 0, 0, 0, [], .null),
  (8, .getfield 39, 11, 20, [], .null),
  (11, .iconst 2, 0, 0, [], .int 2),
  (12, .iaload, 0, 0, [], .null),
  (13, .if_icmp .ge 58, 45, 0, [], .null),
  (16, .aload_n 0, 0, 0, [], .null),
  (17, .getfield 39, 11, 20, [], .null),
  (20, .bipush 87, 0, 0, [], .int 87),
  (22, .iconst 3, 0, 0, [], .int 3),
  (23, .iload 4, 4, 0, [], .null),
  (25, .imul, 0, 0, [], .null),
  (26, .iadd, 0, 0, [], .null),
  (27, .iaload, 0, 0, [], .null),
  (28, .iload_n 1, 1, 0, [], .null),
  (29, .if_icmp .ne 36, 43, 0, [], .null),
  (32, .aload_n 0, 0, 0, [], .null),
  (33, .getfield 39, 11, 20, [], .null),
  (36, .bipush 87, 0, 0, [], .int 87),
  (38, .iconst 3, 0, 0, [], .int 3),
  (39, .iload 4, 4, 0, [], .null),
  (41, .imul, 0, 0, [], .null),
  (42, .iadd, 0, 0, [], .null),
  (43, .iconst 2, 0, 0, [], .int 2),
  (44, .iadd, 0, 0, [], .null),
  (45, .iaload, 0, 0, [], .null),
  (46, .iload_n 2, 2, 0, [], .null),
  (47, .if_icmp .ne 18, 43, 0, [], .null),
  (50, .aload_n 0, 0, 0, [], .null),
  (51, .getfield 39, 11, 20, [], .null),
  (54, .bipush 87, 0, 0, [], .int 87),
  (56, .iconst 3, 0, 0, [], .int 3),
  (57, .iload 4, 4, 0, [], .null),
  (59, .imul, 0, 0, [], .null),
  (60, .iadd, 0, 0, [], .null),
  (61, .iconst 1, 0, 0, [], .int 1),
  (62, .iadd, 0, 0, [], .null),
  (63, .iaload, 0, 0, [], .null),
  (64, .istore_n 3, 3, 0, [], .null),
  (65, .iinc 4 1, 4, 0, [], .int 1),
  (68, .goto (-63), 4, 0, [], .null),
  (71, .iload_n 3, 3, 0, [], .null),
  (72, .ireturn, 0, 0, [], .null)]
def xm_m188 : xm_M := (12, ⟨"StairNewsModel", "errandOf", "(II)I"⟩, prog_14_method_65_code, 5, (Option.some Jvm.ClassFile.FieldType.int), 2, 0, 0, xm_c188)
def xm_c189 : List xm_E := [(0, .bipush 10, 0, 0, [], .int 10),
  (2, .bipush 11, 0, 0, [], .int 11),
  (4, .iload_n 1, 1, 0, [], .null),
  (5, .imul, 0, 0, [], .null),
  (6, .iadd, 0, 0, [], .null),
  (7, .istore_n 2, 2, 0, [], .null),
  (8, .aload_n 0, 0, 0, [], .null),
  (9, .getfield 39, 11, 20, [], .null),
  (12, .iload_n 2, 2, 0, [], .null),
  (13, .iconst 2, 0, 0, [], .int 2),
  (14, .iadd, 0, 0, [], .null),
  (15, .dup2, 0, 0, [], .null),
  (16, .iaload, 0, 0, [], .null),
  (17, .iconst 1, 0, 0, [], .int 1),
  (18, .isub, 0, 0, [], .null),
  (19, .iastore, 0, 0, [], .null),
  (20, .aload_n 0, 0, 0, [], .null),
  (21, .getfield 39, 11, 20, [], .null),
  (24, .iload_n 2, 2, 0, [], .null),
  (25, .iconst 2, 0, 0, [], .int 2),
  (26, .iadd, 0, 0, [], .null),
  (27, .iaload, 0, 0, [], .null),
  (28, .ifCond .le 4, 24, 0, [], .null),
  (31, .return_, 0, 0, [], .null),
  (32, .aload_n 0, 0, 0, [], .null),
  (33, .getfield 39, 11, 20, [], .null),
  (36, .iload_n 2, 2, 0, [], .null),
  (37, .dup2, 0, 0, [], .null),
  (38, .iaload, 0, 0, [], .null),
  (39, .aload_n 0, 0, 0, [], .null),
  (40, .getfield 39, 11, 20, [], .null),
  (43, .iload_n 2, 2, 0, [], .null),
  (44, .iconst 1, 0, 0, [], .int 1),
  (45, .iadd, 0, 0, [], .null),
  (46, .iaload, 0, 0, [], .null),
  (47, .aload_n 0, 0, 0, [], .null),
  (48, .getfield 39, 11, 20, [], .null),
  (51, .iload_n 2, 2, 0, [], .null),
  (52, .iaload, 0, 0, [], .null),
  (53, .if_icmp .le 7, 42, 0, [], .null),
  (56, .iconst 1, 0, 0, [], .int 1),
  (57, .goto 4, 43, 0, [], .null),
  (60, .iconst (-1), 0, 0, [], .int (-1)),
  (61, .iadd, 0, 0, [], .null),
  (62, .iastore, 0, 0, [], .null),
  (63, .aload_n 0, 0, 0, [], .null),
  (64, .dup, 0, 0, [], .null),
  (65, .getfield 322, 11, 23, [], .null),
  (68, .iconst 1, 0, 0, [], .int 1),
  (69, .iload_n 1, 1, 0, [], .null),
  (70, .ishl, 0, 0, [], .null),
  (71, .ior, 0, 0, [], .null),
  (72, .putfield 322, 11, 23, [], .null),
  (75, .aload_n 0, 0, 0, [], .null),
  (76, .getfield 39, 11, 20, [], .null),
  (79, .iload_n 2, 2, 0, [], .null),
  (80, .iaload, 0, 0, [], .null),
  (81, .aload_n 0, 0, 0, [], .null),
  (82, .getfield 39, 11, 20, [], .null),
  (85, .iload_n 2, 2, 0, [], .null),
  (86, .iconst 1, 0, 0, [], .int 1),
  (87, .iadd, 0, 0, [], .null),
  (88, .iaload, 0, 0, [], .null),
  (89, .if_icmp .eq 19, 76, 0, [], .null),
  (92, .aload_n 0, 0, 0, [], .null),
  (93, .getfield 39, 11, 20, [], .null),
  (96, .iload_n 2, 2, 0, [], .null),
  (97, .iconst 2, 0, 0, [], .int 2),
  (98, .iadd, 0, 0, [], .null),
  (99, .aload_n 0, 0, 0, [], .null),
  (100, .getfield 39, 11, 20, [], .null),
  (103, .iload_n 2, 2, 0, [], .null),
  (104, .iconst 3, 0, 0, [], .int 3),
  (105, .iadd, 0, 0, [], .null),
  (106, .iaload, 0, 0, [], .null),
  (107, .iastore, 0, 0, [], .null),
  (108, .return_, 0, 0, [], .null)]
def xm_m189 : xm_M := (12, ⟨"StairNewsModel", "walks", "(I)V"⟩, prog_14_method_66_code, 3, (Option.none : Option Jvm.ClassFile.FieldType), 1, 0, 0, xm_c189)
def xm_c190 : List xm_E := [(0, .aload_n 0, 0, 0, [], .null),
  (1, .getfield 322, 11, 23, [], .null),
  (4, .iload_n 1, 1, 0, [], .null),
  (5, .invokestatic 325, 126, 1, [], .null),
  (8, .ifCond .eq 17, 13, 0, [], .null),
  (11, .aload_n 0, 0, 0, [], .null),
  (12, .iload_n 1, 1, 0, [], .null),
  (13, .iconst 0, 0, 0, [], .int 0),
  (14, .invokevirtual 284, 178, 0, [], .null),
  (17, .iload_n 2, 2, 0, [], .null),
  (18, .if_icmp .ne 7, 13, 0, [], .null),
  (21, .iconst 1, 0, 0, [], .int 1),
  (22, .goto 4, 14, 0, [], .null),
  (25, .iconst 0, 0, 0, [], .int 0),
  (26, .ireturn, 0, 0, [], .null)]
def xm_m190 : xm_M := (12, ⟨"StairNewsModel", "isOn", "(II)Z"⟩, prog_14_method_67_code, 3, (Option.some Jvm.ClassFile.FieldType.boolean), 2, 0, 0, xm_c190)
def xm_c191 : List xm_E := [(0, .iconst 0, 0, 0, [], .int 0),
  (1, .istore 4, 4, 0, [], .null),
  (3, .iconst 0, 0, 0, [], .int 0),
  (4, .istore 5, 5, 0, [], .null),
  (6, .iload 5, 5, 0, [], .null),
  (8, .aload_n 0, 0, 0, [], .null),
  (9, .getfield 39, 11, 20, [], .null),
  (12, .iconst 1, 0, 0, [], .int 1),
  (13, .iaload, 0, 0, [], .null),
  (14, .if_icmp .ge 41, 29, 0, [], .null),
  (17, .iload 4, 4, 0, [], .null),
  (19, .iload 5, 5, 0, [], .null),
  (21, .iload_n 2, 2, 0, [], .null),
  (22, .if_icmp .eq 23, 24, 0, [], .null),
  (25, .iload 5, 5, 0, [], .null),
  (27, .iload_n 3, 3, 0, [], .null),
  (28, .if_icmp .eq 17, 24, 0, [], .null),
  (31, .aload_n 0, 0, 0, [], .null),
  (32, .iload 5, 5, 0, [], .null),
  (34, .iload_n 1, 1, 0, [], .null),
  (35, .invokevirtual 328, 190, 0, [], .null),
  (38, .ifCond .eq 7, 24, 0, [], .null),
  (41, .iconst 1, 0, 0, [], .int 1),
  (42, .goto 4, 25, 0, [], .null),
  (45, .iconst 0, 0, 0, [], .int 0),
  (46, .iadd, 0, 0, [], .null),
  (47, .istore 4, 4, 0, [], .null),
  (49, .iinc 5 1, 5, 0, [], .int 1),
  (52, .goto (-46), 4, 0, [], .null),
  (55, .iload 4, 4, 0, [], .null),
  (57, .ireturn, 0, 0, [], .null)]
def xm_m191 : xm_M := (12, ⟨"StairNewsModel", "othersOn", "(III)I"⟩, prog_14_method_68_code, 6, (Option.some Jvm.ClassFile.FieldType.int), 3, 0, 0, xm_c191)
def xm_c192 : List xm_E := [(0, .aload_n 0, 0, 0, [], .null),
  (1, .iload_n 1, 1, 0, [], .null),
  (2, .iconst 0, 0, 0, [], .int 0),
  (3, .invokevirtual 284, 178, 0, [], .null),
  (6, .istore_n 3, 3, 0, [], .null),
  (7, .aload_n 0, 0, 0, [], .null),
  (8, .getfield 36, 11, 19, [], .null),
  (11, .iconst 0, 0, 0, [], .int 0),
  (12, .iload_n 1, 1, 0, [], .null),
  (13, .i2l, 0, 0, [], .null),
  (14, .lastore, 0, 0, [], .null),
  (15, .aload_n 0, 0, 0, [], .null),
  (16, .getfield 36, 11, 19, [], .null),
  (19, .iconst 1, 0, 0, [], .int 1),
  (20, .iload_n 2, 2, 0, [], .null),
  (21, .i2l, 0, 0, [], .null),
  (22, .lastore, 0, 0, [], .null),
  (23, .aload_n 0, 0, 0, [], .null),
  (24, .getfield 36, 11, 19, [], .null),
  (27, .iconst 2, 0, 0, [], .int 2),
  (28, .iload_n 3, 3, 0, [], .null),
  (29, .i2l, 0, 0, [], .null),
  (30, .lastore, 0, 0, [], .null),
  (31, .aload_n 0, 0, 0, [], .null),
  (32, .getfield 36, 11, 19, [], .null),
  (35, .iconst 3, 0, 0, [], .int 3),
  (36, .aload_n 0, 0, 0, [], .null),
  (37, .getfield 39, 11, 20, [], .null),
  (40, .iconst 4, 0, 0, [], .int 4),
  (41, .iaload, 0, 0, [], .null),
  (42, .i2l, 0, 0, [], .null),
  (43, .lastore, 0, 0, [], .null),
  (44, .aload_n 0, 0, 0, [], .null),
  (45, .getfield 36, 11, 19, [], .null),
  (48, .iconst 4, 0, 0, [], .int 4),
  (49, .aload_n 0, 0, 0, [], .null),
  (50, .iload_n 1, 1, 0, [], .null),
  (51, .bipush 9, 0, 0, [], .int 9),
  (53, .invokevirtual 284, 178, 0, [], .null),
  (56, .i2l, 0, 0, [], .null),
  (57, .lastore, 0, 0, [], .null),
  (58, .aload_n 0, 0, 0, [], .null),
  (59, .getfield 36, 11, 19, [], .null),
  (62, .iconst 5, 0, 0, [], .int 5),
  (63, .aload_n 0, 0, 0, [], .null),
  (64, .getfield 39, 11, 20, [], .null),
  (67, .iconst 4, 0, 0, [], .int 4),
  (68, .iaload, 0, 0, [], .null),
  (69, .aload_n 0, 0, 0, [], .null),
  (70, .iload_n 1, 1, 0, [], .null),
  (71, .bipush 8, 0, 0, [], .int 8),
  (73, .invokevirtual 284, 178, 0, [], .null),
  (76, .isub, 0, 0, [], .null),
  (77, .i2l, 0, 0, [], .null),
  (78, .lastore, 0, 0, [], .null),
  (79, .aload_n 0, 0, 0, [], .null),
  (80, .getfield 36, 11, 19, [], .null),
  (83, .bipush 6, 0, 0, [], .int 6),
  (85, .aload_n 0, 0, 0, [], .null),
  (86, .iload_n 2, 2, 0, [], .null),
  (87, .iconst 4, 0, 0, [], .int 4),
  (88, .invokevirtual 284, 178, 0, [], .null),
  (91, .iload_n 3, 3, 0, [], .null),
  (92, .if_icmp .ne 7, 66, 0, [], .null),
  (95, .lconst 1, 0, 0, [], .long 1),
  (96, .goto 4, 67, 0, [], .null),
  (99, .lconst 0, 0, 0, [], .long 0),
  (100, .lastore, 0, 0, [], .null),
  (101, .aload_n 0, 0, 0, [], .null),
  (102, .getfield 36, 11, 19, [], .null),
  (105, .bipush 7, 0, 0, [], .int 7),
  (107, .aload_n 0, 0, 0, [], .null),
  (108, .iload_n 3, 3, 0, [], .null),
  (109, .iload_n 1, 1, 0, [], .null),
  (110, .iload_n 2, 2, 0, [], .null),
  (111, .invokevirtual 331, 191, 0, [], .null),
  (114, .i2l, 0, 0, [], .null),
  (115, .lastore, 0, 0, [], .null),
  (116, .aload_n 0, 0, 0, [], .null),
  (117, .getfield 36, 11, 19, [], .null),
  (120, .bipush 8, 0, 0, [], .int 8),
  (122, .aload_n 0, 0, 0, [], .null),
  (123, .invokevirtual 335, 181, 0, [], .null),
  (126, .invokestatic 338, 127, 1, [], .null),
  (129, .i2l, 0, 0, [], .null),
  (130, .lastore, 0, 0, [], .null),
  (131, .aload_n 0, 0, 0, [], .null),
  (132, .getfield 36, 11, 19, [], .null),
  (135, .bipush 9, 0, 0, [], .int 9),
  (137, .aload_n 0, 0, 0, [], .null),
  (138, .aload_n 0, 0, 0, [], .null),
  (139, .getfield 39, 11, 20, [], .null),
  (142, .iconst 4, 0, 0, [], .int 4),
  (143, .iaload, 0, 0, [], .null),
  (144, .invokevirtual 341, 182, 0, [], .null),
  (147, .ifCond .eq 7, 98, 0, [], .null),
  (150, .lconst 1, 0, 0, [], .long 1),
  (151, .goto 4, 99, 0, [], .null),
  (154, .lconst 0, 0, 0, [], .long 0),
  (155, .lastore, 0, 0, [], .null),
  (156, .aload_n 0, 0, 0, [], .null),
  (157, .getfield 36, 11, 19, [], .null),
  (160, .bipush 10, 0, 0, [], .int 10),
  (162, .aload_n 0, 0, 0, [], .null),
  (163, .iload_n 1, 1, 0, [], .null),
  (164, .bipush 7, 0, 0, [], .int 7),
  (166, .invokevirtual 284, 178, 0, [], .null),
  (169, .i2l, 0, 0, [], .null),
  (170, .lastore, 0, 0, [], .null),
  (171, .return_, 0, 0, [], .null)]
def xm_m192 : xm_M := (12, ⟨"StairNewsModel", "words", "(II)V"⟩, prog_14_method_69_code, 4, (Option.none : Option Jvm.ClassFile.FieldType), 2, 0, 0, xm_c192)
def xm_c193 : List xm_E := [(0, .iconst 0, 0, 0, [], .int 0),
  (1, .istore_n 2, 2, 0, [], .null),
  (2, .iload_n 2, 2, 0, [], .null),
  (3, .aload_n 0, 0, 0, [], .null),
  (4, .getfield 23, 11, 6, [], .null),
  (7, .iload_n 1, 1, 0, [], .null),
  (8, .iaload, 0, 0, [], .null),
  (9, .if_icmp .ge 75, 57, 0, [], .null),
  (12, .bipush 48, 0, 0, [], .int 48),
  (14, .iload_n 1, 1, 0, [], .null),
  (15, .imul, 0, 0, [], .null),
  (16, .iconst 4, 0, 0, [], .int 4),
  (17, .iload_n 2, 2, 0, [], .null),
  (18, .imul, 0, 0, [], .null),
  (19, .iadd, 0, 0, [], .null),
  (20, .istore_n 3, 3, 0, [], .null),
  (21, .aload_n 0, 0, 0, [], .null),
  (22, .getfield 20, 11, 5, [], .null),
  (25, .iload_n 3, 3, 0, [], .null),
  (26, .iconst 2, 0, 0, [], .int 2),
  (27, .iadd, 0, 0, [], .null),
  (28, .iaload, 0, 0, [], .null),
  (29, .ifCond .lt 29, 41, 0, [], .null),
  (32, .aload_n 0, 0, 0, [], .null),
  (33, .iload_n 1, 1, 0, [], .null),
  (34, .aload_n 0, 0, 0, [], .null),
  (35, .getfield 20, 11, 5, [], .null),
  (38, .iload_n 3, 3, 0, [], .null),
  (39, .iconst 2, 0, 0, [], .int 2),
  (40, .iadd, 0, 0, [], .null),
  (41, .iaload, 0, 0, [], .null),
  (42, .aload_n 0, 0, 0, [], .null),
  (43, .getfield 20, 11, 5, [], .null),
  (46, .iload_n 3, 3, 0, [], .null),
  (47, .iconst 3, 0, 0, [], .int 3),
  (48, .iadd, 0, 0, [], .null),
  (49, .iaload, 0, 0, [], .null),
  (50, .invokevirtual 344, 174, 0, [], .null),
  (53, .lconst 1, 0, 0, [], .long 1),
  (54, .lcmp, 0, 0, [], .null),
  (55, .ifCond .ne 23, 55, 0, [], .null),
  (58, .aload_n 0, 0, 0, [], .null),
  (59, .iload_n 1, 1, 0, [], .null),
  (60, .aload_n 0, 0, 0, [], .null),
  (61, .getfield 20, 11, 5, [], .null),
  (64, .iload_n 3, 3, 0, [], .null),
  (65, .iaload, 0, 0, [], .null),
  (66, .aload_n 0, 0, 0, [], .null),
  (67, .getfield 20, 11, 5, [], .null),
  (70, .iload_n 3, 3, 0, [], .null),
  (71, .iconst 1, 0, 0, [], .int 1),
  (72, .iadd, 0, 0, [], .null),
  (73, .iaload, 0, 0, [], .null),
  (74, .invokevirtual 344, 174, 0, [], .null),
  (77, .lreturn, 0, 0, [], .null),
  (78, .iinc 2 1, 2, 0, [], .int 1),
  (81, .goto (-79), 2, 0, [], .null),
  (84, .lconst 0, 0, 0, [], .long 0),
  (85, .lreturn, 0, 0, [], .null)]
def xm_m193 : xm_M := (12, ⟨"StairNewsModel", "summedBy", "(I)J"⟩, prog_14_method_70_code, 4, (Option.some Jvm.ClassFile.FieldType.long), 1, 0, 0, xm_c193)
def xm_c194 : List xm_E := [(0, .aload_n 0, 0, 0, [], .null),
  (1, .iload_n 2, 2, 0, [], .null),
  (2, .iconst 0, 0, 0, [], .int 0),
  (3, .invokevirtual 284, 178, 0, [], .null),
  (6, .istore_n 3, 3, 0, [], .null),
  (7, .iload_n 1, 1, 0, [], .null),
  (8, .iload_n 2, 2, 0, [], .null),
  (9, .if_icmp .eq 34, 24, 0, [], .null),
  (12, .aload_n 0, 0, 0, [], .null),
  (13, .iload_n 1, 1, 0, [], .null),
  (14, .invokevirtual 306, 179, 0, [], .null),
  (17, .ifCond .eq 26, 24, 0, [], .null),
  (20, .aload_n 0, 0, 0, [], .null),
  (21, .iload_n 1, 1, 0, [], .null),
  (22, .iload_n 3, 3, 0, [], .null),
  (23, .invokevirtual 328, 190, 0, [], .null),
  (26, .ifCond .eq 17, 24, 0, [], .null),
  (29, .aload_n 0, 0, 0, [], .null),
  (30, .getfield 39, 11, 20, [], .null),
  (33, .bipush 8, 0, 0, [], .int 8),
  (35, .iaload, 0, 0, [], .null),
  (36, .iload_n 3, 3, 0, [], .null),
  (37, .invokestatic 325, 126, 1, [], .null),
  (40, .ifCond .eq 5, 26, 0, [], .null),
  (43, .iconst 0, 0, 0, [], .int 0),
  (44, .ireturn, 0, 0, [], .null),
  (45, .aload_n 0, 0, 0, [], .null),
  (46, .aload_n 0, 0, 0, [], .null),
  (47, .getfield 39, 11, 20, [], .null),
  (50, .iconst 4, 0, 0, [], .int 4),
  (51, .iaload, 0, 0, [], .null),
  (52, .invokevirtual 341, 182, 0, [], .null),
  (55, .ifCond .eq 19, 42, 0, [], .null),
  (58, .aload_n 0, 0, 0, [], .null),
  (59, .getfield 39, 11, 20, [], .null),
  (62, .bipush 9, 0, 0, [], .int 9),
  (64, .iaload, 0, 0, [], .null),
  (65, .iload_n 3, 3, 0, [], .null),
  (66, .invokestatic 325, 126, 1, [], .null),
  (69, .ifCond .ne 5, 42, 0, [], .null),
  (72, .iconst 0, 0, 0, [], .int 0),
  (73, .ireturn, 0, 0, [], .null),
  (74, .aload_n 0, 0, 0, [], .null),
  (75, .iload_n 1, 1, 0, [], .null),
  (76, .iconst 5, 0, 0, [], .int 5),
  (77, .invokevirtual 284, 178, 0, [], .null),
  (80, .iload_n 2, 2, 0, [], .null),
  (81, .invokestatic 325, 126, 1, [], .null),
  (84, .ifCond .eq 15, 57, 0, [], .null),
  (87, .aload_n 0, 0, 0, [], .null),
  (88, .iload_n 3, 3, 0, [], .null),
  (89, .iload_n 1, 1, 0, [], .null),
  (90, .iload_n 2, 2, 0, [], .null),
  (91, .invokevirtual 331, 191, 0, [], .null),
  (94, .ifCond .ne 5, 57, 0, [], .null),
  (97, .iconst 0, 0, 0, [], .int 0),
  (98, .ireturn, 0, 0, [], .null),
  (99, .aload_n 0, 0, 0, [], .null),
  (100, .getfield 42, 11, 21, [], .null),
  (103, .ifCond .ge 5, 62, 0, [], .null),
  (106, .iconst 1, 0, 0, [], .int 1),
  (107, .ireturn, 0, 0, [], .null),
  (108, .aload_n 0, 0, 0, [], .null),
  (109, .iload_n 1, 1, 0, [], .null),
  (110, .iload_n 2, 2, 0, [], .null),
  (111, .invokevirtual 348, 192, 0, [], .null),
  (114, .aload_n 0, 0, 0, [], .null),
  (115, .aload_n 0, 0, 0, [], .null),
  (116, .getfield 42, 11, 21, [], .null),
  (119, .invokevirtual 351, 193, 0, [], .null),
  (122, .lconst 0, 0, 0, [], .long 0),
  (123, .lcmp, 0, 0, [], .null),
  (124, .ifCond .le 7, 75, 0, [], .null),
  (127, .iconst 1, 0, 0, [], .int 1),
  (128, .goto 4, 76, 0, [], .null),
  (131, .iconst 0, 0, 0, [], .int 0),
  (132, .ireturn, 0, 0, [], .null)]
def xm_m194 : xm_M := (12, ⟨"StairNewsModel", "tells", "(II)Z"⟩, prog_14_method_71_code, 4, (Option.some Jvm.ClassFile.FieldType.boolean), 2, 0, 0, xm_c194)
def xm_c195 : List xm_E := [(0, .aload_n 0, 0, 0, [], .null),
  (1, .iload_n 1, 1, 0, [], .null),
  (2, .invokevirtual 306, 179, 0, [], .null),
  (5, .ifCond .ne 25, 15, 0, [], .null),
  (8, .aload_n 0, 0, 0, [], .null),
  (9, .iload_n 1, 1, 0, [], .null),
  (10, .bipush 6, 0, 0, [], .int 6),
  (12, .invokevirtual 284, 178, 0, [], .null),
  (15, .iconst 1, 0, 0, [], .int 1),
  (16, .if_icmp .eq 14, 15, 0, [], .null),
  (19, .aload_n 0, 0, 0, [], .null),
  (20, .getfield 322, 11, 23, [], .null),
  (23, .iload_n 1, 1, 0, [], .null),
  (24, .invokestatic 325, 126, 1, [], .null),
  (27, .ifCond .ne 5, 17, 0, [], .null),
  (30, .iconst (-1), 0, 0, [], .int (-1)),
  (31, .ireturn, 0, 0, [], .null),
  (32, .iconst 0, 0, 0, [], .int 0),
  (33, .istore_n 2, 2, 0, [], .null),
  (34, .iload_n 2, 2, 0, [], .null),
  (35, .aload_n 0, 0, 0, [], .null),
  (36, .getfield 39, 11, 20, [], .null),
  (39, .iconst 1, 0, 0, [], .int 1),
  (40, .iaload, 0, 0, [], .null),
  (41, .if_icmp .ge 20, 34, 0, [], .null),
  (44, .aload_n 0, 0, 0, [], .null),
  (45, .iload_n 2, 2, 0, [], .null),
  (46, .iload_n 1, 1, 0, [], .null),
  (47, .invokevirtual 355, 194, 0, [], .null),
  (50, .ifCond .eq 5, 32, 0, [], .null),
  (53, .iload_n 2, 2, 0, [], .null),
  (54, .ireturn, 0, 0, [], .null),
  (55, .iinc 2 1, 2, 0, [], .int 1),
  (58, .goto (-24), 19, 0, [], .null),
  (61, .aload_n 0, 0, 0, [], .null),
  (62, .getfield 39, 11, 20, [], .null),
  (65, .bipush 6, 0, 0, [], .int 6),
  (67, .iaload, 0, 0, [], .null),
  (68, .ifCond .lt 19, 48, 0, [], .null),
  (71, .aload_n 0, 0, 0, [], .null),
  (72, .iload_n 1, 1, 0, [], .null),
  (73, .iconst 0, 0, 0, [], .int 0),
  (74, .invokevirtual 284, 178, 0, [], .null),
  (77, .aload_n 0, 0, 0, [], .null),
  (78, .getfield 39, 11, 20, [], .null),
  (81, .bipush 7, 0, 0, [], .int 7),
  (83, .iaload, 0, 0, [], .null),
  (84, .if_icmp .eq 5, 50, 0, [], .null),
  (87, .iconst (-1), 0, 0, [], .int (-1)),
  (88, .ireturn, 0, 0, [], .null),
  (89, .iconst 0, 0, 0, [], .int 0),
  (90, .istore_n 2, 2, 0, [], .null),
  (91, .iload_n 2, 2, 0, [], .null),
  (92, .aload_n 0, 0, 0, [], .null),
  (93, .getfield 39, 11, 20, [], .null),
  (96, .iconst 1, 0, 0, [], .int 1),
  (97, .iaload, 0, 0, [], .null),
  (98, .if_icmp .ge 34, 74, 0, [], .null),
  (101, .aload_n 0, 0, 0, [], .null),
  (102, .iload_n 2, 2, 0, [], .null),
  (103, .invokevirtual 306, 179, 0, [], .null),
  (106, .ifCond .eq 20, 72, 0, [], .null),
  (109, .aload_n 0, 0, 0, [], .null),
  (110, .iload_n 2, 2, 0, [], .null),
  (111, .aload_n 0, 0, 0, [], .null),
  (112, .getfield 39, 11, 20, [], .null),
  (115, .bipush 6, 0, 0, [], .int 6),
  (117, .iaload, 0, 0, [], .null),
  (118, .invokevirtual 328, 190, 0, [], .null),
  (121, .ifCond .eq 5, 72, 0, [], .null),
  (124, .iload_n 2, 2, 0, [], .null),
  (125, .ireturn, 0, 0, [], .null),
  (126, .iinc 2 1, 2, 0, [], .int 1),
  (129, .goto (-38), 52, 0, [], .null),
  (132, .iconst (-1), 0, 0, [], .int (-1)),
  (133, .ireturn, 0, 0, [], .null)]
def xm_m195 : xm_M := (12, ⟨"StairNewsModel", "tellerOf", "(I)I"⟩, prog_14_method_72_code, 3, (Option.some Jvm.ClassFile.FieldType.int), 1, 0, 0, xm_c195)
def xm_c196 : List xm_E := [(0, .iconst 0, 0, 0, [], .int 0),
  (1, .istore_n 1, 1, 0, [], .null),
  (2, .aload_n 0, 0, 0, [], .null),
  (3, .iconst 0, 0, 0, [], .int 0),
  (4, .putfield 322, 11, 23, [], .null),
  (7, .iconst 0, 0, 0, [], .int 0),
  (8, .istore_n 2, 2, 0, [], .null),
  (9, .iload_n 2, 2, 0, [], .null),
  (10, .aload_n 0, 0, 0, [], .null),
  (11, .getfield 39, 11, 20, [], .null),
  (14, .iconst 1, 0, 0, [], .int 1),
  (15, .iaload, 0, 0, [], .null),
  (16, .if_icmp .ge 81, 57, 0, [], .null),
  (19, .aload_n 0, 0, 0, [], .null),
  (20, .iload_n 2, 2, 0, [], .null),
  (21, .invokevirtual 358, 180, 0, [], .null),
  (24, .ifCond .eq 17, 25, 0, [], .null),
  (27, .aload_n 0, 0, 0, [], .null),
  (28, .iload_n 2, 2, 0, [], .null),
  (29, .aload_n 0, 0, 0, [], .null),
  (30, .getfield 39, 11, 20, [], .null),
  (33, .iconst 4, 0, 0, [], .int 4),
  (34, .iaload, 0, 0, [], .null),
  (35, .invokevirtual 361, 188, 0, [], .null),
  (38, .goto 4, 26, 0, [], .null),
  (41, .iconst (-1), 0, 0, [], .int (-1)),
  (42, .istore_n 3, 3, 0, [], .null),
  (43, .iload_n 3, 3, 0, [], .null),
  (44, .ifCond .lt 19, 39, 0, [], .null),
  (47, .iload_n 3, 3, 0, [], .null),
  (48, .aload_n 0, 0, 0, [], .null),
  (49, .iload_n 2, 2, 0, [], .null),
  (50, .iconst 0, 0, 0, [], .int 0),
  (51, .invokevirtual 284, 178, 0, [], .null),
  (54, .if_icmp .eq 9, 39, 0, [], .null),
  (57, .aload_n 0, 0, 0, [], .null),
  (58, .iload_n 2, 2, 0, [], .null),
  (59, .iload_n 3, 3, 0, [], .null),
  (60, .invokevirtual 364, 187, 0, [], .null),
  (63, .aload_n 0, 0, 0, [], .null),
  (64, .iload_n 2, 2, 0, [], .null),
  (65, .invokevirtual 358, 180, 0, [], .null),
  (68, .ifCond .eq 18, 52, 0, [], .null),
  (71, .aload_n 0, 0, 0, [], .null),
  (72, .dup, 0, 0, [], .null),
  (73, .getfield 322, 11, 23, [], .null),
  (76, .iconst 1, 0, 0, [], .int 1),
  (77, .iload_n 2, 2, 0, [], .null),
  (78, .ishl, 0, 0, [], .null),
  (79, .ior, 0, 0, [], .null),
  (80, .putfield 322, 11, 23, [], .null),
  (83, .goto 8, 55, 0, [], .null),
  (86, .aload_n 0, 0, 0, [], .null),
  (87, .iload_n 2, 2, 0, [], .null),
  (88, .invokevirtual 367, 189, 0, [], .null),
  (91, .iinc 2 1, 2, 0, [], .int 1),
  (94, .goto (-85), 7, 0, [], .null),
  (97, .iconst 0, 0, 0, [], .int 0),
  (98, .istore_n 2, 2, 0, [], .null),
  (99, .iload_n 2, 2, 0, [], .null),
  (100, .aload_n 0, 0, 0, [], .null),
  (101, .getfield 39, 11, 20, [], .null),
  (104, .iconst 1, 0, 0, [], .int 1),
  (105, .iaload, 0, 0, [], .null),
  (106, .if_icmp .ge 20, 74, 0, [], .null),
  (109, .aload_n 0, 0, 0, [], .null),
  (110, .getfield 46, 11, 24, [], .null),
  (113, .iload_n 2, 2, 0, [], .null),
  (114, .aload_n 0, 0, 0, [], .null),
  (115, .iload_n 2, 2, 0, [], .null),
  (116, .invokevirtual 370, 195, 0, [], .null),
  (119, .iastore, 0, 0, [], .null),
  (120, .iinc 2 1, 2, 0, [], .int 1),
  (123, .goto (-24), 59, 0, [], .null),
  (126, .iconst 0, 0, 0, [], .int 0),
  (127, .istore_n 2, 2, 0, [], .null),
  (128, .iload_n 2, 2, 0, [], .null),
  (129, .aload_n 0, 0, 0, [], .null),
  (130, .getfield 39, 11, 20, [], .null),
  (133, .iconst 1, 0, 0, [], .int 1),
  (134, .iaload, 0, 0, [], .null),
  (135, .if_icmp .ge 35, 98, 0, [], .null),
  (138, .aload_n 0, 0, 0, [], .null),
  (139, .getfield 46, 11, 24, [], .null),
  (142, .iload_n 2, 2, 0, [], .null),
  (143, .iaload, 0, 0, [], .null),
  (144, .ifCond .ge 6, 88, 0, [], .null),
  (147, .goto 17, 96, 0, [], .null),
  (150, .aload_n 0, 0, 0, [], .null),
  (151, .iload_n 2, 2, 0, [], .null),
  (152, .aload_n 0, 0, 0, [], .null),
  (153, .getfield 46, 11, 24, [], .null),
  (156, .iload_n 2, 2, 0, [], .null),
  (157, .iaload, 0, 0, [], .null),
  (158, .invokevirtual 373, 197, 0, [], .null),
  (161, .iinc 1 1, 1, 0, [], .int 1),
  (164, .iinc 2 1, 2, 0, [], .int 1),
  (167, .goto (-39), 76, 0, [], .null),
  (170, .aload_n 0, 0, 0, [], .null),
  (171, .getfield 39, 11, 20, [], .null),
  (174, .iconst 4, 0, 0, [], .int 4),
  (175, .dup2, 0, 0, [], .null),
  (176, .iaload, 0, 0, [], .null),
  (177, .iconst 1, 0, 0, [], .int 1),
  (178, .iadd, 0, 0, [], .null),
  (179, .iastore, 0, 0, [], .null),
  (180, .iload_n 1, 1, 0, [], .null),
  (181, .ireturn, 0, 0, [], .null)]
def xm_m196 : xm_M := (12, ⟨"StairNewsModel", "passes", "()I"⟩, prog_14_method_73_code, 4, (Option.some Jvm.ClassFile.FieldType.int), 0, 0, 0, xm_c196)
def xm_c197 : List xm_E := [(0, .bipush 10, 0, 0, [], .int 10),
  (2, .bipush 11, 0, 0, [], .int 11),
  (4, .iload_n 1, 1, 0, [], .null),
  (5, .imul, 0, 0, [], .null),
  (6, .iadd, 0, 0, [], .null),
  (7, .istore_n 3, 3, 0, [], .null),
  (8, .aload_n 0, 0, 0, [], .null),
  (9, .iload_n 2, 2, 0, [], .null),
  (10, .bipush 9, 0, 0, [], .int 9),
  (12, .invokevirtual 284, 178, 0, [], .null),
  (15, .aload_n 0, 0, 0, [], .null),
  (16, .iload_n 2, 2, 0, [], .null),
  (17, .bipush 7, 0, 0, [], .int 7),
  (19, .invokevirtual 284, 178, 0, [], .null),
  (22, .iadd, 0, 0, [], .null),
  (23, .istore 4, 4, 0, [], .null),
  (25, .aload_n 0, 0, 0, [], .null),
  (26, .getfield 39, 11, 20, [], .null),
  (29, .iload_n 3, 3, 0, [], .null),
  (30, .bipush 8, 0, 0, [], .int 8),
  (32, .iadd, 0, 0, [], .null),
  (33, .aload_n 0, 0, 0, [], .null),
  (34, .getfield 39, 11, 20, [], .null),
  (37, .iconst 4, 0, 0, [], .int 4),
  (38, .iaload, 0, 0, [], .null),
  (39, .iastore, 0, 0, [], .null),
  (40, .aload_n 0, 0, 0, [], .null),
  (41, .getfield 39, 11, 20, [], .null),
  (44, .iload_n 3, 3, 0, [], .null),
  (45, .bipush 9, 0, 0, [], .int 9),
  (47, .iadd, 0, 0, [], .null),
  (48, .iload 4, 4, 0, [], .null),
  (50, .sipush (-999), 0, 0, [], .int (-999)),
  (53, .if_icmp .ge 9, 36, 0, [], .null),
  (56, .sipush (-999), 0, 0, [], .int (-999)),
  (59, .goto 19, 42, 0, [], .null),
  (62, .iload 4, 4, 0, [], .null),
  (64, .sipush 999, 0, 0, [], .int 999),
  (67, .if_icmp .le 9, 41, 0, [], .null),
  (70, .sipush 999, 0, 0, [], .int 999),
  (73, .goto 5, 42, 0, [], .null),
  (76, .iload 4, 4, 0, [], .null),
  (78, .iastore, 0, 0, [], .null),
  (79, .aload_n 0, 0, 0, [], .null),
  (80, .getfield 39, 11, 20, [], .null),
  (83, .iload_n 3, 3, 0, [], .null),
  (84, .bipush 10, 0, 0, [], .int 10),
  (86, .iadd, 0, 0, [], .null),
  (87, .iload_n 2, 2, 0, [], .null),
  (88, .iastore, 0, 0, [], .null),
  (89, .return_, 0, 0, [], .null)]
def xm_m197 : xm_M := (12, ⟨"StairNewsModel", "hearsOf", "(II)V"⟩, prog_14_method_74_code, 5, (Option.none : Option Jvm.ClassFile.FieldType), 2, 0, 0, xm_c197)
def xm_c198 : List xm_E := [(0, .aload_n 0, 0, 0, [], .null),
  (1, .getfield 288, 11, 26, [], .null),
  (4, .bipush 20, 0, 0, [], .int 20),
  (6, .if_icmp .ne 44, 27, 0, [], .null),
  (9, .bipush 87, 0, 0, [], .int 87),
  (11, .istore_n 1, 1, 0, [], .null),
  (12, .iload_n 1, 1, 0, [], .null),
  (13, .sipush 1740, 0, 0, [], .int 1740),
  (16, .if_icmp .ge 24, 21, 0, [], .null),
  (19, .aload_n 0, 0, 0, [], .null),
  (20, .getfield 49, 11, 25, [], .null),
  (23, .iload_n 1, 1, 0, [], .null),
  (24, .bipush 87, 0, 0, [], .int 87),
  (26, .isub, 0, 0, [], .null),
  (27, .aload_n 0, 0, 0, [], .null),
  (28, .getfield 49, 11, 25, [], .null),
  (31, .iload_n 1, 1, 0, [], .null),
  (32, .iaload, 0, 0, [], .null),
  (33, .iastore, 0, 0, [], .null),
  (34, .iinc 1 1, 1, 0, [], .int 1),
  (37, .goto (-25), 6, 0, [], .null),
  (40, .aload_n 0, 0, 0, [], .null),
  (41, .dup, 0, 0, [], .null),
  (42, .getfield 288, 11, 26, [], .null),
  (45, .iconst 1, 0, 0, [], .int 1),
  (46, .isub, 0, 0, [], .null),
  (47, .putfield 288, 11, 26, [], .null),
  (50, .iconst 0, 0, 0, [], .int 0),
  (51, .istore_n 1, 1, 0, [], .null),
  (52, .iload_n 1, 1, 0, [], .null),
  (53, .bipush 87, 0, 0, [], .int 87),
  (55, .if_icmp .ge 29, 47, 0, [], .null),
  (58, .aload_n 0, 0, 0, [], .null),
  (59, .getfield 49, 11, 25, [], .null),
  (62, .bipush 87, 0, 0, [], .int 87),
  (64, .aload_n 0, 0, 0, [], .null),
  (65, .getfield 288, 11, 26, [], .null),
  (68, .imul, 0, 0, [], .null),
  (69, .iload_n 1, 1, 0, [], .null),
  (70, .iadd, 0, 0, [], .null),
  (71, .aload_n 0, 0, 0, [], .null),
  (72, .getfield 39, 11, 20, [], .null),
  (75, .iload_n 1, 1, 0, [], .null),
  (76, .iaload, 0, 0, [], .null),
  (77, .iastore, 0, 0, [], .null),
  (78, .iinc 1 1, 1, 0, [], .int 1),
  (81, .goto (-29), 29, 0, [], .null),
  (84, .aload_n 0, 0, 0, [], .null),
  (85, .dup, 0, 0, [], .null),
  (86, .getfield 288, 11, 26, [], .null),
  (89, .iconst 1, 0, 0, [], .int 1),
  (90, .iadd, 0, 0, [], .null),
  (91, .putfield 288, 11, 26, [], .null),
  (94, .return_, 0, 0, [], .null)]
def xm_m198 : xm_M := (12, ⟨"StairNewsModel", "keepsAct", "()V"⟩, prog_14_method_75_code, 2, (Option.none : Option Jvm.ClassFile.FieldType), 0, 0, 0, xm_c198)
def xm_c199 : List xm_E := [(0, .aload_n 0, 0, 0, [], .null),
  (1, .getfield 288, 11, 26, [], .null),
  (4, .ifCond .ne 5, 5, 0, [], .null),
  (7, .iconst (-1), 0, 0, [], .int (-1)),
  (8, .ireturn, 0, 0, [], .null),
  (9, .aload_n 0, 0, 0, [], .null),
  (10, .dup, 0, 0, [], .null),
  (11, .getfield 288, 11, 26, [], .null),
  (14, .iconst 1, 0, 0, [], .int 1),
  (15, .isub, 0, 0, [], .null),
  (16, .putfield 288, 11, 26, [], .null),
  (19, .iconst 0, 0, 0, [], .int 0),
  (20, .istore_n 1, 1, 0, [], .null),
  (21, .iload_n 1, 1, 0, [], .null),
  (22, .bipush 87, 0, 0, [], .int 87),
  (24, .if_icmp .ge 29, 31, 0, [], .null),
  (27, .aload_n 0, 0, 0, [], .null),
  (28, .getfield 39, 11, 20, [], .null),
  (31, .iload_n 1, 1, 0, [], .null),
  (32, .aload_n 0, 0, 0, [], .null),
  (33, .getfield 49, 11, 25, [], .null),
  (36, .bipush 87, 0, 0, [], .int 87),
  (38, .aload_n 0, 0, 0, [], .null),
  (39, .getfield 288, 11, 26, [], .null),
  (42, .imul, 0, 0, [], .null),
  (43, .iload_n 1, 1, 0, [], .null),
  (44, .iadd, 0, 0, [], .null),
  (45, .iaload, 0, 0, [], .null),
  (46, .iastore, 0, 0, [], .null),
  (47, .iinc 1 1, 1, 0, [], .int 1),
  (50, .goto (-29), 13, 0, [], .null),
  (53, .aload_n 0, 0, 0, [], .null),
  (54, .getfield 288, 11, 26, [], .null),
  (57, .ireturn, 0, 0, [], .null)]
def xm_m199 : xm_M := (12, ⟨"StairNewsModel", "undo", "()I"⟩, prog_14_method_76_code, 2, (Option.some Jvm.ClassFile.FieldType.int), 0, 0, 0, xm_c199)
def xm_c200 : List xm_E := [(0, .aload_n 0, 0, 0, [], .null),
  (1, .invokevirtual 376, 175, 0, [], .null),
  (4, .ifCond .eq 15, 9, 0, [], .null),
  (7, .aload_n 0, 0, 0, [], .null),
  (8, .getfield 39, 11, 20, [], .null),
  (11, .iconst 4, 0, 0, [], .int 4),
  (12, .iaload, 0, 0, [], .null),
  (13, .sipush 999, 0, 0, [], .int 999),
  (16, .if_icmp .ne 5, 11, 0, [], .null),
  (19, .iconst (-1), 0, 0, [], .int (-1)),
  (20, .ireturn, 0, 0, [], .null),
  (21, .aload_n 0, 0, 0, [], .null),
  (22, .invokevirtual 379, 198, 0, [], .null),
  (25, .aload_n 0, 0, 0, [], .null),
  (26, .invokevirtual 382, 196, 0, [], .null),
  (29, .ireturn, 0, 0, [], .null)]
def xm_m200 : xm_M := (12, ⟨"StairNewsModel", "bell", "()I"⟩, prog_14_method_77_code, 1, (Option.some Jvm.ClassFile.FieldType.int), 0, 0, 0, xm_c200)
def xm_c201 : List xm_E := [(0, .aload_n 0, 0, 0, [], .null),
  (1, .getfield 39, 11, 20, [], .null),
  (4, .bipush 10, 0, 0, [], .int 10),
  (6, .bipush 11, 0, 0, [], .int 11),
  (8, .iload_n 1, 1, 0, [], .null),
  (9, .imul, 0, 0, [], .null),
  (10, .iadd, 0, 0, [], .null),
  (11, .bipush 8, 0, 0, [], .int 8),
  (13, .iadd, 0, 0, [], .null),
  (14, .aload_n 0, 0, 0, [], .null),
  (15, .getfield 39, 11, 20, [], .null),
  (18, .iconst 4, 0, 0, [], .int 4),
  (19, .iaload, 0, 0, [], .null),
  (20, .iastore, 0, 0, [], .null),
  (21, .aload_n 0, 0, 0, [], .null),
  (22, .getfield 39, 11, 20, [], .null),
  (25, .bipush 10, 0, 0, [], .int 10),
  (27, .bipush 11, 0, 0, [], .int 11),
  (29, .iload_n 1, 1, 0, [], .null),
  (30, .imul, 0, 0, [], .null),
  (31, .iadd, 0, 0, [], .null),
  (32, .bipush 9, 0, 0, [], .int 9),
  (34, .iadd, 0, 0, [], .null),
  (35, .iload_n 2, 2, 0, [], .null),
  (36, .iastore, 0, 0, [], .null),
  (37, .aload_n 0, 0, 0, [], .null),
  (38, .getfield 39, 11, 20, [], .null),
  (41, .bipush 10, 0, 0, [], .int 10),
  (43, .bipush 11, 0, 0, [], .int 11),
  (45, .iload_n 1, 1, 0, [], .null),
  (46, .imul, 0, 0, [], .null),
  (47, .iadd, 0, 0, [], .null),
  (48, .bipush 10, 0, 0, [], .int 10),
  (50, .iadd, 0, 0, [], .null),
  (51, .iconst (-1), 0, 0, [], .int (-1)),
  (52, .iastore, 0, 0, [], .null),
  (53, .return_, 0, 0, [], .null)]
def xm_m201 : xm_M := (12, ⟨"StairNewsModel", "whispers", "(II)V"⟩, prog_14_method_78_code, 3, (Option.none : Option Jvm.ClassFile.FieldType), 2, 0, 0, xm_c201)
def xm_c202 : List xm_E := [(0, .aload_n 0, 0, 0, [], .null),
  (1, .iload_n 1, 1, 0, [], .null),
  (2, .invokevirtual 312, 176, 0, [], .null),
  (5, .ifCond .eq 34, 20, 0, [], .null),
  (8, .aload_n 0, 0, 0, [], .null),
  (9, .iload_n 1, 1, 0, [], .null),
  (10, .bipush 6, 0, 0, [], .int 6),
  (12, .invokevirtual 284, 178, 0, [], .null),
  (15, .iconst 1, 0, 0, [], .int 1),
  (16, .if_icmp .eq 23, 20, 0, [], .null),
  (19, .aload_n 0, 0, 0, [], .null),
  (20, .iload_n 1, 1, 0, [], .null),
  (21, .invokevirtual 306, 179, 0, [], .null),
  (24, .ifCond .ne 15, 20, 0, [], .null),
  (27, .iload_n 2, 2, 0, [], .null),
  (28, .i2l, 0, 0, [], .null),
  (29, .lconst 0, 0, 0, [], .long 0),
  (30, .ldc2_w 385, 0, 0, [], .long 99),
  (33, .invokestatic 112, 125, 1, [], .null),
  (36, .ifCond .ne 5, 22, 0, [], .null),
  (39, .iconst 0, 0, 0, [], .int 0),
  (40, .ireturn, 0, 0, [], .null),
  (41, .aload_n 0, 0, 0, [], .null),
  (42, .invokevirtual 379, 198, 0, [], .null),
  (45, .aload_n 0, 0, 0, [], .null),
  (46, .iload_n 1, 1, 0, [], .null),
  (47, .iload_n 2, 2, 0, [], .null),
  (48, .invokevirtual 387, 201, 0, [], .null),
  (51, .iconst 1, 0, 0, [], .int 1),
  (52, .ireturn, 0, 0, [], .null)]
def xm_m202 : xm_M := (12, ⟨"StairNewsModel", "whisper", "(II)Z"⟩, prog_14_method_79_code, 3, (Option.some Jvm.ClassFile.FieldType.boolean), 2, 0, 0, xm_c202)
def xm_c203 : List xm_E := [(0, .iload_n 0, 0, 0, [], .null),
  (1, .iload_n 1, 1, 0, [], .null),
  (2, .if_icmp .ge 9, 7, 0, [], .null),
  (5, .iload_n 1, 1, 0, [], .null),
  (6, .iload_n 0, 0, 0, [], .null),
  (7, .isub, 0, 0, [], .null),
  (8, .goto 6, 10, 0, [], .null),
  (11, .iload_n 0, 0, 0, [], .null),
  (12, .iload_n 1, 1, 0, [], .null),
  (13, .isub, 0, 0, [], .null),
  (14, .ireturn, 0, 0, [], .null)]
def xm_m203 : xm_M := (12, ⟨"StairNewsModel", "apart", "(II)I"⟩, prog_14_method_80_code, 2, (Option.some Jvm.ClassFile.FieldType.int), 2, 0, 0, xm_c203)
def xm_c204 : List xm_E := [(0, .aload_n 0, 0, 0, [], .null),
  (1, .iload_n 1, 1, 0, [], .null),
  (2, .invokevirtual 312, 176, 0, [], .null),
  (5, .ifCond .eq 29, 18, 0, [], .null),
  (8, .aload_n 0, 0, 0, [], .null),
  (9, .iload_n 2, 2, 0, [], .null),
  (10, .invokevirtual 319, 177, 0, [], .null),
  (13, .ifCond .eq 21, 18, 0, [], .null),
  (16, .aload_n 0, 0, 0, [], .null),
  (17, .iload_n 1, 1, 0, [], .null),
  (18, .invokevirtual 358, 180, 0, [], .null),
  (21, .ifCond .eq 13, 18, 0, [], .null),
  (24, .aload_n 0, 0, 0, [], .null),
  (25, .iload_n 1, 1, 0, [], .null),
  (26, .iconst 0, 0, 0, [], .int 0),
  (27, .invokevirtual 284, 178, 0, [], .null),
  (30, .iload_n 2, 2, 0, [], .null),
  (31, .if_icmp .ne 5, 20, 0, [], .null),
  (34, .iconst (-1), 0, 0, [], .int (-1)),
  (35, .ireturn, 0, 0, [], .null),
  (36, .aload_n 0, 0, 0, [], .null),
  (37, .invokevirtual 379, 198, 0, [], .null),
  (40, .aload_n 0, 0, 0, [], .null),
  (41, .iload_n 1, 1, 0, [], .null),
  (42, .iload_n 2, 2, 0, [], .null),
  (43, .invokevirtual 364, 187, 0, [], .null),
  (46, .aload_n 0, 0, 0, [], .null),
  (47, .iload_n 1, 1, 0, [], .null),
  (48, .iconst 0, 0, 0, [], .int 0),
  (49, .invokevirtual 284, 178, 0, [], .null),
  (52, .iload_n 2, 2, 0, [], .null),
  (53, .invokestatic 390, 203, 1, [], .null),
  (56, .ireturn, 0, 0, [], .null)]
def xm_m204 : xm_M := (12, ⟨"StairNewsModel", "send", "(II)I"⟩, prog_14_method_81_code, 3, (Option.some Jvm.ClassFile.FieldType.int), 2, 0, 0, xm_c204)
def xm_c205 : List xm_E := [(0, .aload_n 0, 0, 0, [], .null),
  (1, .iload_n 1, 1, 0, [], .null),
  (2, .invokevirtual 319, 177, 0, [], .null),
  (5, .ifCond .ne 5, 6, 0, [], .null),
  (8, .iconst (-1), 0, 0, [], .int (-1)),
  (9, .ireturn, 0, 0, [], .null),
  (10, .aload_n 0, 0, 0, [], .null),
  (11, .invokevirtual 379, 198, 0, [], .null),
  (14, .aload_n 0, 0, 0, [], .null),
  (15, .getfield 39, 11, 20, [], .null),
  (18, .bipush 8, 0, 0, [], .int 8),
  (20, .dup2, 0, 0, [], .null),
  (21, .iaload, 0, 0, [], .null),
  (22, .iconst 1, 0, 0, [], .int 1),
  (23, .iload_n 1, 1, 0, [], .null),
  (24, .ishl, 0, 0, [], .null),
  (25, .ixor, 0, 0, [], .null),
  (26, .iastore, 0, 0, [], .null),
  (27, .aload_n 0, 0, 0, [], .null),
  (28, .getfield 39, 11, 20, [], .null),
  (31, .bipush 8, 0, 0, [], .int 8),
  (33, .iaload, 0, 0, [], .null),
  (34, .iload_n 1, 1, 0, [], .null),
  (35, .ishr, 0, 0, [], .null),
  (36, .iconst 1, 0, 0, [], .int 1),
  (37, .iand, 0, 0, [], .null),
  (38, .ireturn, 0, 0, [], .null)]
def xm_m205 : xm_M := (12, ⟨"StairNewsModel", "plant", "(I)I"⟩, prog_14_method_82_code, 2, (Option.some Jvm.ClassFile.FieldType.int), 1, 0, 0, xm_c205)
def xm_c206 : List xm_E := [(0, .aload_n 0, 0, 0, [], .null),
  (1, .iload_n 1, 1, 0, [], .null),
  (2, .invokevirtual 312, 176, 0, [], .null),
  (5, .ifCond .eq 14, 10, 0, [], .null),
  (8, .aload_n 0, 0, 0, [], .null),
  (9, .iload_n 1, 1, 0, [], .null),
  (10, .iconst 3, 0, 0, [], .int 3),
  (11, .invokevirtual 284, 178, 0, [], .null),
  (14, .bipush 9, 0, 0, [], .int 9),
  (16, .if_icmp .ne 5, 12, 0, [], .null),
  (19, .iconst (-1), 0, 0, [], .int (-1)),
  (20, .ireturn, 0, 0, [], .null),
  (21, .aload_n 0, 0, 0, [], .null),
  (22, .invokevirtual 379, 198, 0, [], .null),
  (25, .aload_n 0, 0, 0, [], .null),
  (26, .getfield 39, 11, 20, [], .null),
  (29, .bipush 10, 0, 0, [], .int 10),
  (31, .bipush 11, 0, 0, [], .int 11),
  (33, .iload_n 1, 1, 0, [], .null),
  (34, .imul, 0, 0, [], .null),
  (35, .iadd, 0, 0, [], .null),
  (36, .iconst 3, 0, 0, [], .int 3),
  (37, .iadd, 0, 0, [], .null),
  (38, .dup2, 0, 0, [], .null),
  (39, .iaload, 0, 0, [], .null),
  (40, .iconst 1, 0, 0, [], .int 1),
  (41, .iadd, 0, 0, [], .null),
  (42, .iastore, 0, 0, [], .null),
  (43, .aload_n 0, 0, 0, [], .null),
  (44, .iload_n 1, 1, 0, [], .null),
  (45, .iconst 3, 0, 0, [], .int 3),
  (46, .invokevirtual 284, 178, 0, [], .null),
  (49, .ireturn, 0, 0, [], .null)]
def xm_m206 : xm_M := (12, ⟨"StairNewsModel", "heel", "(I)I"⟩, prog_14_method_83_code, 2, (Option.some Jvm.ClassFile.FieldType.int), 1, 0, 0, xm_c206)
def xm_c207 : List xm_E := [(0, .iconst 0, 0, 0, [], .int 0),
  (1, .istore_n 1, 1, 0, [], .null),
  (2, .iload_n 1, 1, 0, [], .null),
  (3, .bipush 87, 0, 0, [], .int 87),
  (5, .if_icmp .ge 21, 15, 0, [], .null),
  (8, .aload_n 0, 0, 0, [], .null),
  (9, .getfield 52, 11, 27, [], .null),
  (12, .iload_n 1, 1, 0, [], .null),
  (13, .aload_n 0, 0, 0, [], .null),
  (14, .getfield 39, 11, 20, [], .null),
  (17, .iload_n 1, 1, 0, [], .null),
  (18, .iaload, 0, 0, [], .null),
  (19, .iastore, 0, 0, [], .null),
  (20, .iinc 1 1, 1, 0, [], .int 1),
  (23, .goto (-21), 2, 0, [], .null),
  (26, .return_, 0, 0, [], .null)]
def xm_m207 : xm_M := (12, ⟨"StairNewsModel", "keeps", "()V"⟩, prog_14_method_84_code, 2, (Option.none : Option Jvm.ClassFile.FieldType), 0, 0, 0, xm_c207)
def xm_c208 : List xm_E := [(0, .iconst 0, 0, 0, [], .int 0),
  (1, .istore_n 1, 1, 0, [], .null),
  (2, .iload_n 1, 1, 0, [], .null),
  (3, .bipush 87, 0, 0, [], .int 87),
  (5, .if_icmp .ge 21, 15, 0, [], .null),
  (8, .aload_n 0, 0, 0, [], .null),
  (9, .getfield 39, 11, 20, [], .null),
  (12, .iload_n 1, 1, 0, [], .null),
  (13, .aload_n 0, 0, 0, [], .null),
  (14, .getfield 52, 11, 27, [], .null),
  (17, .iload_n 1, 1, 0, [], .null),
  (18, .iaload, 0, 0, [], .null),
  (19, .iastore, 0, 0, [], .null),
  (20, .iinc 1 1, 1, 0, [], .int 1),
  (23, .goto (-21), 2, 0, [], .null),
  (26, .return_, 0, 0, [], .null)]
def xm_m208 : xm_M := (12, ⟨"StairNewsModel", "laysBack", "()V"⟩, prog_14_method_85_code, 2, (Option.none : Option Jvm.ClassFile.FieldType), 0, 0, 0, xm_c208)
def xm_c209 : List xm_E := [(0, .iconst 0, 0, 0, [], .int 0),
  (1, .istore_n 2, 2, 0, [], .null),
  (2, .iload_n 2, 2, 0, [], .null),
  (3, .iload_n 1, 1, 0, [], .null),
  (4, .if_icmp .ge 14, 10, 0, [], .null),
  (7, .aload_n 0, 0, 0, [], .null),
  (8, .invokevirtual 382, 196, 0, [], .null),
  (11, .pop, 0, 0, [], .null),
  (12, .iinc 2 1, 2, 0, [], .int 1),
  (15, .goto (-13), 2, 0, [], .null),
  (18, .return_, 0, 0, [], .null)]
def xm_m209 : xm_M := (12, ⟨"StairNewsModel", "passesOn", "(I)V"⟩, prog_14_method_86_code, 3, (Option.none : Option Jvm.ClassFile.FieldType), 1, 0, 0, xm_c209)
def xm_c210 : List xm_E := [(0, .aload_n 0, 0, 0, [], .null),
  (1, .invokevirtual 376, 175, 0, [], .null),
  (4, .ifCond .eq 15, 9, 0, [], .null),
  (7, .iload_n 1, 1, 0, [], .null),
  (8, .i2l, 0, 0, [], .null),
  (9, .lconst 0, 0, 0, [], .long 0),
  (10, .ldc2_w 393, 0, 0, [], .long 100),
  (13, .invokestatic 112, 125, 1, [], .null),
  (16, .ifCond .ne 5, 11, 0, [], .null),
  (19, .iconst (-1), 0, 0, [], .int (-1)),
  (20, .ireturn, 0, 0, [], .null),
  (21, .aload_n 0, 0, 0, [], .null),
  (22, .invokevirtual 395, 207, 0, [], .null),
  (25, .aload_n 0, 0, 0, [], .null),
  (26, .iload_n 1, 1, 0, [], .null),
  (27, .invokevirtual 398, 209, 0, [], .null),
  (30, .aload_n 0, 0, 0, [], .null),
  (31, .invokevirtual 335, 181, 0, [], .null),
  (34, .istore_n 2, 2, 0, [], .null),
  (35, .aload_n 0, 0, 0, [], .null),
  (36, .invokevirtual 401, 208, 0, [], .null),
  (39, .iload_n 2, 2, 0, [], .null),
  (40, .ireturn, 0, 0, [], .null)]
def xm_m210 : xm_M := (12, ⟨"StairNewsModel", "ahead", "(I)I"⟩, prog_14_method_87_code, 3, (Option.some Jvm.ClassFile.FieldType.int), 1, 0, 0, xm_c210)
def xm_c211 : List xm_E := [(0, .aload_n 0, 0, 0, [], .null),
  (1, .iload_n 1, 1, 0, [], .null),
  (2, .invokevirtual 312, 176, 0, [], .null),
  (5, .ifCond .eq 15, 10, 0, [], .null),
  (8, .iload_n 2, 2, 0, [], .null),
  (9, .i2l, 0, 0, [], .null),
  (10, .lconst 0, 0, 0, [], .long 0),
  (11, .ldc2_w 393, 0, 0, [], .long 100),
  (14, .invokestatic 112, 125, 1, [], .null),
  (17, .ifCond .ne 5, 12, 0, [], .null),
  (20, .iconst (-1), 0, 0, [], .int (-1)),
  (21, .ireturn, 0, 0, [], .null),
  (22, .aload_n 0, 0, 0, [], .null),
  (23, .invokevirtual 395, 207, 0, [], .null),
  (26, .aload_n 0, 0, 0, [], .null),
  (27, .iload_n 2, 2, 0, [], .null),
  (28, .invokevirtual 398, 209, 0, [], .null),
  (31, .aload_n 0, 0, 0, [], .null),
  (32, .iload_n 1, 1, 0, [], .null),
  (33, .iconst 0, 0, 0, [], .int 0),
  (34, .invokevirtual 284, 178, 0, [], .null),
  (37, .istore_n 3, 3, 0, [], .null),
  (38, .aload_n 0, 0, 0, [], .null),
  (39, .invokevirtual 401, 208, 0, [], .null),
  (42, .iload_n 3, 3, 0, [], .null),
  (43, .ireturn, 0, 0, [], .null)]
def xm_m211 : xm_M := (12, ⟨"StairNewsModel", "where", "(II)I"⟩, prog_14_method_88_code, 4, (Option.some Jvm.ClassFile.FieldType.int), 2, 0, 0, xm_c211)
def xm_c212 : List xm_E := [(0, .aload_n 0, 0, 0, [], .null),
  (1, .iload_n 1, 1, 0, [], .null),
  (2, .invokevirtual 312, 176, 0, [], .null),
  (5, .ifCond .ne 5, 6, 0, [], .null),
  (8, .iconst (-1), 0, 0, [], .int (-1)),
  (9, .ireturn, 0, 0, [], .null),
  (10, .aload_n 0, 0, 0, [], .null),
  (11, .invokevirtual 395, 207, 0, [], .null),
  (14, .iconst 0, 0, 0, [], .int 0),
  (15, .istore_n 2, 2, 0, [], .null),
  (16, .iload_n 2, 2, 0, [], .null),
  (17, .bipush 100, 0, 0, [], .int 100),
  (19, .if_icmp .ge 22, 22, 0, [], .null),
  (22, .aload_n 0, 0, 0, [], .null),
  (23, .iload_n 1, 1, 0, [], .null),
  (24, .invokevirtual 306, 179, 0, [], .null),
  (27, .ifCond .ne 14, 22, 0, [], .null),
  (30, .aload_n 0, 0, 0, [], .null),
  (31, .invokevirtual 382, 196, 0, [], .null),
  (34, .pop, 0, 0, [], .null),
  (35, .iinc 2 1, 2, 0, [], .int 1),
  (38, .goto (-22), 10, 0, [], .null),
  (41, .aload_n 0, 0, 0, [], .null),
  (42, .iload_n 1, 1, 0, [], .null),
  (43, .bipush 8, 0, 0, [], .int 8),
  (45, .invokevirtual 284, 178, 0, [], .null),
  (48, .istore_n 2, 2, 0, [], .null),
  (49, .aload_n 0, 0, 0, [], .null),
  (50, .invokevirtual 401, 208, 0, [], .null),
  (53, .iload_n 2, 2, 0, [], .null),
  (54, .ifCond .ge 8, 33, 0, [], .null),
  (57, .bipush (-2), 0, 0, [], .int (-2)),
  (59, .goto 4, 34, 0, [], .null),
  (62, .iload_n 2, 2, 0, [], .null),
  (63, .ireturn, 0, 0, [], .null)]
def xm_m212 : xm_M := (12, ⟨"StairNewsModel", "hears", "(I)I"⟩, prog_14_method_89_code, 3, (Option.some Jvm.ClassFile.FieldType.int), 1, 0, 0, xm_c212)
def xm_c213 : List xm_E := [(0, .iconst 0, 0, 0, [], .int 0),
  (1, .istore_n 1, 1, 0, [], .null),
  (2, .iconst 0, 0, 0, [], .int 0),
  (3, .istore_n 2, 2, 0, [], .null),
  (4, .iload_n 2, 2, 0, [], .null),
  (5, .aload_n 0, 0, 0, [], .null),
  (6, .getfield 39, 11, 20, [], .null),
  (9, .iconst 1, 0, 0, [], .int 1),
  (10, .iaload, 0, 0, [], .null),
  (11, .if_icmp .ge 37, 29, 0, [], .null),
  (14, .iload_n 1, 1, 0, [], .null),
  (15, .aload_n 0, 0, 0, [], .null),
  (16, .iload_n 2, 2, 0, [], .null),
  (17, .invokevirtual 306, 179, 0, [], .null),
  (20, .ifCond .ne 19, 24, 0, [], .null),
  (23, .aload_n 0, 0, 0, [], .null),
  (24, .iload_n 2, 2, 0, [], .null),
  (25, .bipush 6, 0, 0, [], .int 6),
  (27, .invokevirtual 284, 178, 0, [], .null),
  (30, .ifCond .ne 9, 24, 0, [], .null),
  (33, .iconst 1, 0, 0, [], .int 1),
  (34, .iload_n 2, 2, 0, [], .null),
  (35, .ishl, 0, 0, [], .null),
  (36, .goto 4, 25, 0, [], .null),
  (39, .iconst 0, 0, 0, [], .int 0),
  (40, .ior, 0, 0, [], .null),
  (41, .istore_n 1, 1, 0, [], .null),
  (42, .iinc 2 1, 2, 0, [], .int 1),
  (45, .goto (-41), 4, 0, [], .null),
  (48, .iload_n 1, 1, 0, [], .null),
  (49, .ireturn, 0, 0, [], .null)]
def xm_m213 : xm_M := (12, ⟨"StairNewsModel", "unknowing", "()I"⟩, prog_14_method_90_code, 3, (Option.some Jvm.ClassFile.FieldType.int), 0, 0, 0, xm_c213)
def xm_c214 : List xm_E := [(0, .iconst 0, 0, 0, [], .int 0),
  (1, .istore_n 2, 2, 0, [], .null),
  (2, .iload_n 2, 2, 0, [], .null),
  (3, .aload_n 0, 0, 0, [], .null),
  (4, .getfield 39, 11, 20, [], .null),
  (7, .iconst 1, 0, 0, [], .int 1),
  (8, .iaload, 0, 0, [], .null),
  (9, .if_icmp .ge 29, 22, 0, [], .null),
  (12, .aload_n 0, 0, 0, [], .null),
  (13, .iload_n 2, 2, 0, [], .null),
  (14, .iconst 4, 0, 0, [], .int 4),
  (15, .invokevirtual 284, 178, 0, [], .null),
  (18, .iload_n 1, 1, 0, [], .null),
  (19, .if_icmp .ne 13, 20, 0, [], .null),
  (22, .aload_n 0, 0, 0, [], .null),
  (23, .iload_n 2, 2, 0, [], .null),
  (24, .invokevirtual 306, 179, 0, [], .null),
  (27, .ifCond .eq 5, 20, 0, [], .null),
  (30, .iconst 1, 0, 0, [], .int 1),
  (31, .ireturn, 0, 0, [], .null),
  (32, .iinc 2 1, 2, 0, [], .int 1),
  (35, .goto (-33), 2, 0, [], .null),
  (38, .iconst 0, 0, 0, [], .int 0),
  (39, .ireturn, 0, 0, [], .null)]
def xm_m214 : xm_M := (12, ⟨"StairNewsModel", "knowsAtHome", "(I)Z"⟩, prog_14_method_91_code, 3, (Option.some Jvm.ClassFile.FieldType.boolean), 1, 0, 0, xm_c214)
def xm_c215 : List xm_E := [(0, .aload_n 0, 0, 0, [], .null),
  (1, .iload_n 1, 1, 0, [], .null),
  (2, .invokevirtual 319, 177, 0, [], .null),
  (5, .ifCond .eq 39, 23, 0, [], .null),
  (8, .aload_n 0, 0, 0, [], .null),
  (9, .iload_n 3, 3, 0, [], .null),
  (10, .invokevirtual 319, 177, 0, [], .null),
  (13, .ifCond .eq 31, 23, 0, [], .null),
  (16, .iload_n 1, 1, 0, [], .null),
  (17, .iload_n 3, 3, 0, [], .null),
  (18, .if_icmp .eq 26, 23, 0, [], .null),
  (21, .iload_n 2, 2, 0, [], .null),
  (22, .i2l, 0, 0, [], .null),
  (23, .lconst 1, 0, 0, [], .long 1),
  (24, .ldc2_w 404, 0, 0, [], .long 60),
  (27, .invokestatic 112, 125, 1, [], .null),
  (30, .ifCond .eq 14, 23, 0, [], .null),
  (33, .iload 4, 4, 0, [], .null),
  (35, .i2l, 0, 0, [], .null),
  (36, .lconst 0, 0, 0, [], .long 0),
  (37, .lconst 1, 0, 0, [], .long 1),
  (38, .invokestatic 112, 125, 1, [], .null),
  (41, .ifCond .ne 5, 25, 0, [], .null),
  (44, .iconst (-1), 0, 0, [], .int (-1)),
  (45, .ireturn, 0, 0, [], .null),
  (46, .aload_n 0, 0, 0, [], .null),
  (47, .invokevirtual 406, 213, 0, [], .null),
  (50, .istore 5, 5, 0, [], .null),
  (52, .bipush (-2), 0, 0, [], .int (-2)),
  (54, .istore 6, 6, 0, [], .null),
  (56, .aload_n 0, 0, 0, [], .null),
  (57, .invokevirtual 395, 207, 0, [], .null),
  (60, .iconst 0, 0, 0, [], .int 0),
  (61, .istore 7, 7, 0, [], .null),
  (63, .iload 7, 7, 0, [], .null),
  (65, .iload 5, 5, 0, [], .null),
  (67, .if_icmp .gt 106, 86, 0, [], .null),
  (70, .iload 7, 7, 0, [], .null),
  (72, .iload 5, 5, 0, [], .null),
  (74, .iconst (-1), 0, 0, [], .int (-1)),
  (75, .ixor, 0, 0, [], .null),
  (76, .iand, 0, 0, [], .null),
  (77, .ifCond .ne 90, 84, 0, [], .null),
  (80, .iload 6, 6, 0, [], .null),
  (82, .ifCond .lt 19, 51, 0, [], .null),
  (85, .iload 7, 7, 0, [], .null),
  (87, .invokestatic 338, 127, 1, [], .null),
  (90, .iload 6, 6, 0, [], .null),
  (92, .invokestatic 338, 127, 1, [], .null),
  (95, .if_icmp .lt 6, 51, 0, [], .null),
  (98, .goto 69, 84, 0, [], .null),
  (101, .iconst 0, 0, 0, [], .int 0),
  (102, .istore 8, 8, 0, [], .null),
  (104, .iload 8, 8, 0, [], .null),
  (106, .aload_n 0, 0, 0, [], .null),
  (107, .getfield 39, 11, 20, [], .null),
  (110, .iconst 1, 0, 0, [], .int 1),
  (111, .iaload, 0, 0, [], .null),
  (112, .if_icmp .ge 26, 69, 0, [], .null),
  (115, .iload 7, 7, 0, [], .null),
  (117, .iload 8, 8, 0, [], .null),
  (119, .invokestatic 325, 126, 1, [], .null),
  (122, .ifCond .eq 10, 67, 0, [], .null),
  (125, .aload_n 0, 0, 0, [], .null),
  (126, .iload 8, 8, 0, [], .null),
  (128, .iconst 0, 0, 0, [], .int 0),
  (129, .invokevirtual 387, 201, 0, [], .null),
  (132, .iinc 8 1, 8, 0, [], .int 1),
  (135, .goto (-31), 53, 0, [], .null),
  (138, .aload_n 0, 0, 0, [], .null),
  (139, .iload_n 2, 2, 0, [], .null),
  (140, .invokevirtual 398, 209, 0, [], .null),
  (143, .aload_n 0, 0, 0, [], .null),
  (144, .iload_n 1, 1, 0, [], .null),
  (145, .invokevirtual 409, 214, 0, [], .null),
  (148, .ifCond .eq 15, 82, 0, [], .null),
  (151, .aload_n 0, 0, 0, [], .null),
  (152, .iload_n 3, 3, 0, [], .null),
  (153, .invokevirtual 409, 214, 0, [], .null),
  (156, .ifCond .ne 7, 82, 0, [], .null),
  (159, .iload 7, 7, 0, [], .null),
  (161, .istore 6, 6, 0, [], .null),
  (163, .aload_n 0, 0, 0, [], .null),
  (164, .invokevirtual 401, 208, 0, [], .null),
  (167, .iinc 7 1, 7, 0, [], .int 1),
  (170, .goto (-107), 34, 0, [], .null),
  (173, .iload 6, 6, 0, [], .null),
  (175, .ifCond .ge 8, 90, 0, [], .null),
  (178, .bipush (-2), 0, 0, [], .int (-2)),
  (180, .goto 18, 96, 0, [], .null),
  (183, .iload 4, 4, 0, [], .null),
  (185, .ifCond .ne 11, 95, 0, [], .null),
  (188, .iload 6, 6, 0, [], .null),
  (190, .invokestatic 338, 127, 1, [], .null),
  (193, .goto 5, 96, 0, [], .null),
  (196, .iload 6, 6, 0, [], .null),
  (198, .ireturn, 0, 0, [], .null)]
def xm_m215 : xm_M := (12, ⟨"StairNewsModel", "whom", "(IIII)I"⟩, prog_14_method_92_code, 9, (Option.some Jvm.ClassFile.FieldType.int), 4, 0, 0, xm_c215)
def xm_c216 : List xm_E := [(0, .iload_n 1, 1, 0, [], .null),
  (1, .iconst (-1), 0, 0, [], .int (-1)),
  (2, .if_icmp .ne 14, 10, 0, [], .null),
  (5, .aload_n 0, 0, 0, [], .null),
  (6, .getfield 39, 11, 20, [], .null),
  (9, .sipush 137, 0, 0, [], .int 137),
  (12, .iconst 0, 0, 0, [], .int 0),
  (13, .iastore, 0, 0, [], .null),
  (14, .iconst 0, 0, 0, [], .int 0),
  (15, .ireturn, 0, 0, [], .null),
  (16, .aload_n 0, 0, 0, [], .null),
  (17, .iload_n 1, 1, 0, [], .null),
  (18, .invokevirtual 312, 176, 0, [], .null),
  (21, .ifCond .eq 30, 26, 0, [], .null),
  (24, .iload_n 2, 2, 0, [], .null),
  (25, .i2l, 0, 0, [], .null),
  (26, .ldc2_w 412, 0, 0, [], .long (-1000)),
  (29, .ldc2_w 414, 0, 0, [], .long 999),
  (32, .invokestatic 112, 125, 1, [], .null),
  (35, .ifCond .eq 16, 26, 0, [], .null),
  (38, .aload_n 0, 0, 0, [], .null),
  (39, .getfield 39, 11, 20, [], .null),
  (42, .sipush 137, 0, 0, [], .int 137),
  (45, .iaload, 0, 0, [], .null),
  (46, .bipush 10, 0, 0, [], .int 10),
  (48, .if_icmp .ne 6, 28, 0, [], .null),
  (51, .bipush (-2), 0, 0, [], .int (-2)),
  (53, .ireturn, 0, 0, [], .null),
  (54, .aload_n 0, 0, 0, [], .null),
  (55, .getfield 39, 11, 20, [], .null),
  (58, .bipush 117, 0, 0, [], .int 117),
  (60, .iconst 2, 0, 0, [], .int 2),
  (61, .aload_n 0, 0, 0, [], .null),
  (62, .getfield 39, 11, 20, [], .null),
  (65, .sipush 137, 0, 0, [], .int 137),
  (68, .iaload, 0, 0, [], .null),
  (69, .imul, 0, 0, [], .null),
  (70, .iadd, 0, 0, [], .null),
  (71, .iload_n 1, 1, 0, [], .null),
  (72, .iastore, 0, 0, [], .null),
  (73, .aload_n 0, 0, 0, [], .null),
  (74, .getfield 39, 11, 20, [], .null),
  (77, .bipush 117, 0, 0, [], .int 117),
  (79, .iconst 2, 0, 0, [], .int 2),
  (80, .aload_n 0, 0, 0, [], .null),
  (81, .getfield 39, 11, 20, [], .null),
  (84, .sipush 137, 0, 0, [], .int 137),
  (87, .iaload, 0, 0, [], .null),
  (88, .imul, 0, 0, [], .null),
  (89, .iadd, 0, 0, [], .null),
  (90, .iconst 1, 0, 0, [], .int 1),
  (91, .iadd, 0, 0, [], .null),
  (92, .iload_n 2, 2, 0, [], .null),
  (93, .iastore, 0, 0, [], .null),
  (94, .aload_n 0, 0, 0, [], .null),
  (95, .getfield 39, 11, 20, [], .null),
  (98, .sipush 137, 0, 0, [], .int 137),
  (101, .dup2, 0, 0, [], .null),
  (102, .iaload, 0, 0, [], .null),
  (103, .iconst 1, 0, 0, [], .int 1),
  (104, .iadd, 0, 0, [], .null),
  (105, .iastore, 0, 0, [], .null),
  (106, .aload_n 0, 0, 0, [], .null),
  (107, .getfield 39, 11, 20, [], .null),
  (110, .sipush 137, 0, 0, [], .int 137),
  (113, .iaload, 0, 0, [], .null),
  (114, .ireturn, 0, 0, [], .null)]
def xm_m216 : xm_M := (12, ⟨"StairNewsModel", "news", "(II)I"⟩, prog_14_method_93_code, 3, (Option.some Jvm.ClassFile.FieldType.int), 2, 0, 0, xm_c216)
def xm_c217 : List xm_E := [(0, .aload_n 0, 0, 0, [], .null),
  (1, .iload_n 1, 1, 0, [], .null),
  (2, .invokevirtual 306, 179, 0, [], .null),
  (5, .ifCond .eq 13, 9, 0, [], .null),
  (8, .aload_n 0, 0, 0, [], .null),
  (9, .iload_n 1, 1, 0, [], .null),
  (10, .bipush 9, 0, 0, [], .int 9),
  (12, .invokevirtual 284, 178, 0, [], .null),
  (15, .goto 6, 10, 0, [], .null),
  (18, .sipush (-1000), 0, 0, [], .int (-1000)),
  (21, .ireturn, 0, 0, [], .null)]
def xm_m217 : xm_M := (12, ⟨"StairNewsModel", "newsOf", "(I)I"⟩, prog_14_method_94_code, 2, (Option.some Jvm.ClassFile.FieldType.int), 1, 0, 0, xm_c217)
def xm_c218 : List xm_E := [(0, .iconst 0, 0, 0, [], .int 0),
  (1, .istore_n 1, 1, 0, [], .null),
  (2, .iload_n 1, 1, 0, [], .null),
  (3, .aload_n 0, 0, 0, [], .null),
  (4, .getfield 39, 11, 20, [], .null),
  (7, .sipush 137, 0, 0, [], .int 137),
  (10, .iaload, 0, 0, [], .null),
  (11, .if_icmp .ge 42, 33, 0, [], .null),
  (14, .aload_n 0, 0, 0, [], .null),
  (15, .aload_n 0, 0, 0, [], .null),
  (16, .getfield 39, 11, 20, [], .null),
  (19, .bipush 117, 0, 0, [], .int 117),
  (21, .iconst 2, 0, 0, [], .int 2),
  (22, .iload_n 1, 1, 0, [], .null),
  (23, .imul, 0, 0, [], .null),
  (24, .iadd, 0, 0, [], .null),
  (25, .iaload, 0, 0, [], .null),
  (26, .invokevirtual 416, 217, 0, [], .null),
  (29, .aload_n 0, 0, 0, [], .null),
  (30, .getfield 39, 11, 20, [], .null),
  (33, .bipush 117, 0, 0, [], .int 117),
  (35, .iconst 2, 0, 0, [], .int 2),
  (36, .iload_n 1, 1, 0, [], .null),
  (37, .imul, 0, 0, [], .null),
  (38, .iadd, 0, 0, [], .null),
  (39, .iconst 1, 0, 0, [], .int 1),
  (40, .iadd, 0, 0, [], .null),
  (41, .iaload, 0, 0, [], .null),
  (42, .if_icmp .eq 5, 31, 0, [], .null),
  (45, .iconst 0, 0, 0, [], .int 0),
  (46, .ireturn, 0, 0, [], .null),
  (47, .iinc 1 1, 1, 0, [], .int 1),
  (50, .goto (-48), 2, 0, [], .null),
  (53, .iconst 1, 0, 0, [], .int 1),
  (54, .ireturn, 0, 0, [], .null)]
def xm_m218 : xm_M := (12, ⟨"StairNewsModel", "areNewsSo", "()Z"⟩, prog_14_method_95_code, 2, (Option.some Jvm.ClassFile.FieldType.boolean), 0, 0, 0, xm_c218)
def xm_c219 : List xm_E := [(0, .aload_n 0, 0, 0, [], .null),
  (1, .getfield 39, 11, 20, [], .null),
  (4, .iconst 4, 0, 0, [], .int 4),
  (5, .iconst 0, 0, 0, [], .int 0),
  (6, .iastore, 0, 0, [], .null),
  (7, .aload_n 0, 0, 0, [], .null),
  (8, .getfield 39, 11, 20, [], .null),
  (11, .bipush 8, 0, 0, [], .int 8),
  (13, .aload_n 0, 0, 0, [], .null),
  (14, .getfield 39, 11, 20, [], .null),
  (17, .sipush 145, 0, 0, [], .int 145),
  (20, .iaload, 0, 0, [], .null),
  (21, .iastore, 0, 0, [], .null),
  (22, .iconst 0, 0, 0, [], .int 0),
  (23, .istore 4, 4, 0, [], .null),
  (25, .iload 4, 4, 0, [], .null),
  (27, .aload_n 0, 0, 0, [], .null),
  (28, .getfield 39, 11, 20, [], .null),
  (31, .iconst 1, 0, 0, [], .int 1),
  (32, .iaload, 0, 0, [], .null),
  (33, .if_icmp .ge 116, 91, 0, [], .null),
  (36, .bipush 10, 0, 0, [], .int 10),
  (38, .bipush 11, 0, 0, [], .int 11),
  (40, .iload 4, 4, 0, [], .null),
  (42, .imul, 0, 0, [], .null),
  (43, .iadd, 0, 0, [], .null),
  (44, .istore 5, 5, 0, [], .null),
  (46, .aload_n 0, 0, 0, [], .null),
  (47, .getfield 39, 11, 20, [], .null),
  (50, .iload 5, 5, 0, [], .null),
  (52, .aload_n 0, 0, 0, [], .null),
  (53, .getfield 39, 11, 20, [], .null),
  (56, .iload 5, 5, 0, [], .null),
  (58, .iconst 4, 0, 0, [], .int 4),
  (59, .iadd, 0, 0, [], .null),
  (60, .iaload, 0, 0, [], .null),
  (61, .iastore, 0, 0, [], .null),
  (62, .aload_n 0, 0, 0, [], .null),
  (63, .getfield 39, 11, 20, [], .null),
  (66, .iload 5, 5, 0, [], .null),
  (68, .iconst 1, 0, 0, [], .int 1),
  (69, .iadd, 0, 0, [], .null),
  (70, .aload_n 0, 0, 0, [], .null),
  (71, .getfield 39, 11, 20, [], .null),
  (74, .iload 5, 5, 0, [], .null),
  (76, .iconst 4, 0, 0, [], .int 4),
  (77, .iadd, 0, 0, [], .null),
  (78, .iaload, 0, 0, [], .null),
  (79, .iastore, 0, 0, [], .null),
  (80, .aload_n 0, 0, 0, [], .null),
  (81, .getfield 39, 11, 20, [], .null),
  (84, .iload 5, 5, 0, [], .null),
  (86, .iconst 2, 0, 0, [], .int 2),
  (87, .iadd, 0, 0, [], .null),
  (88, .iconst 0, 0, 0, [], .int 0),
  (89, .iastore, 0, 0, [], .null),
  (90, .aload_n 0, 0, 0, [], .null),
  (91, .getfield 39, 11, 20, [], .null),
  (94, .iload 5, 5, 0, [], .null),
  (96, .iconst 3, 0, 0, [], .int 3),
  (97, .iadd, 0, 0, [], .null),
  (98, .aload_n 0, 0, 0, [], .null),
  (99, .getfield 39, 11, 20, [], .null),
  (102, .sipush 138, 0, 0, [], .int 138),
  (105, .iload 4, 4, 0, [], .null),
  (107, .iadd, 0, 0, [], .null),
  (108, .iaload, 0, 0, [], .null),
  (109, .iastore, 0, 0, [], .null),
  (110, .aload_n 0, 0, 0, [], .null),
  (111, .getfield 39, 11, 20, [], .null),
  (114, .iload 5, 5, 0, [], .null),
  (116, .bipush 8, 0, 0, [], .int 8),
  (118, .iadd, 0, 0, [], .null),
  (119, .iconst (-1), 0, 0, [], .int (-1)),
  (120, .iastore, 0, 0, [], .null),
  (121, .aload_n 0, 0, 0, [], .null),
  (122, .getfield 39, 11, 20, [], .null),
  (125, .iload 5, 5, 0, [], .null),
  (127, .bipush 9, 0, 0, [], .int 9),
  (129, .iadd, 0, 0, [], .null),
  (130, .iconst 0, 0, 0, [], .int 0),
  (131, .iastore, 0, 0, [], .null),
  (132, .aload_n 0, 0, 0, [], .null),
  (133, .getfield 39, 11, 20, [], .null),
  (136, .iload 5, 5, 0, [], .null),
  (138, .bipush 10, 0, 0, [], .int 10),
  (140, .iadd, 0, 0, [], .null),
  (141, .iconst (-1), 0, 0, [], .int (-1)),
  (142, .iastore, 0, 0, [], .null),
  (143, .iinc 4 1, 4, 0, [], .int 1),
  (146, .goto (-121), 15, 0, [], .null),
  (149, .aload_n 0, 0, 0, [], .null),
  (150, .iload_n 2, 2, 0, [], .null),
  (151, .invokevirtual 398, 209, 0, [], .null),
  (154, .aload_n 0, 0, 0, [], .null),
  (155, .iload_n 1, 1, 0, [], .null),
  (156, .iconst 0, 0, 0, [], .int 0),
  (157, .invokevirtual 387, 201, 0, [], .null),
  (160, .aload_n 0, 0, 0, [], .null),
  (161, .iload_n 3, 3, 0, [], .null),
  (162, .iload_n 2, 2, 0, [], .null),
  (163, .isub, 0, 0, [], .null),
  (164, .invokevirtual 398, 209, 0, [], .null),
  (167, .return_, 0, 0, [], .null)]
def xm_m219 : xm_M := (12, ⟨"StairNewsModel", "goesFromStart", "(III)V"⟩, prog_14_method_96_code, 6, (Option.none : Option Jvm.ClassFile.FieldType), 3, 0, 0, xm_c219)
def xm_c220 : List xm_E := [(0, .aload_n 0, 0, 0, [], .null),
  (1, .getfield 39, 11, 20, [], .null),
  (4, .iconst 4, 0, 0, [], .int 4),
  (5, .iaload, 0, 0, [], .null),
  (6, .istore_n 1, 1, 0, [], .null),
  (7, .aload_n 0, 0, 0, [], .null),
  (8, .iconst 0, 0, 0, [], .int 0),
  (9, .putfield 419, 11, 30, [], .null),
  (12, .aload_n 0, 0, 0, [], .null),
  (13, .invokevirtual 395, 207, 0, [], .null),
  (16, .iconst 0, 0, 0, [], .int 0),
  (17, .istore_n 2, 2, 0, [], .null),
  (18, .iload_n 2, 2, 0, [], .null),
  (19, .aload_n 0, 0, 0, [], .null),
  (20, .getfield 39, 11, 20, [], .null),
  (23, .iconst 1, 0, 0, [], .int 1),
  (24, .iaload, 0, 0, [], .null),
  (25, .if_icmp .ge 62, 49, 0, [], .null),
  (28, .iconst 0, 0, 0, [], .int 0),
  (29, .istore_n 3, 3, 0, [], .null),
  (30, .iload_n 3, 3, 0, [], .null),
  (31, .bipush 40, 0, 0, [], .int 40),
  (33, .if_icmp .gt 48, 47, 0, [], .null),
  (36, .iload_n 3, 3, 0, [], .null),
  (37, .iload_n 1, 1, 0, [], .null),
  (38, .if_icmp .gt 43, 47, 0, [], .null),
  (41, .aload_n 0, 0, 0, [], .null),
  (42, .iload_n 2, 2, 0, [], .null),
  (43, .bipush 6, 0, 0, [], .int 6),
  (45, .invokevirtual 284, 178, 0, [], .null),
  (48, .ifCond .ne 33, 47, 0, [], .null),
  (51, .aload_n 0, 0, 0, [], .null),
  (52, .iload_n 2, 2, 0, [], .null),
  (53, .iload_n 3, 3, 0, [], .null),
  (54, .iload_n 1, 1, 0, [], .null),
  (55, .invokevirtual 422, 219, 0, [], .null),
  (58, .aload_n 0, 0, 0, [], .null),
  (59, .invokevirtual 426, 218, 0, [], .null),
  (62, .ifCond .eq 9, 43, 0, [], .null),
  (65, .aload_n 0, 0, 0, [], .null),
  (66, .iload_n 2, 2, 0, [], .null),
  (67, .iload_n 3, 3, 0, [], .null),
  (68, .invokevirtual 429, 221, 0, [], .null),
  (71, .aload_n 0, 0, 0, [], .null),
  (72, .invokevirtual 401, 208, 0, [], .null),
  (75, .iinc 3 1, 3, 0, [], .int 1),
  (78, .goto (-48), 20, 0, [], .null),
  (81, .iinc 2 1, 2, 0, [], .int 1),
  (84, .goto (-66), 12, 0, [], .null),
  (87, .return_, 0, 0, [], .null)]
def xm_m220 : xm_M := (12, ⟨"StairNewsModel", "gathersStarts", "()V"⟩, prog_14_method_97_code, 4, (Option.none : Option Jvm.ClassFile.FieldType), 0, 0, 0, xm_c220)
def xm_c221 : List xm_E := [(0, .aload_n 0, 0, 0, [], .null),
  (1, .getfield 55, 11, 28, [], .null),
  (4, .aload_n 0, 0, 0, [], .null),
  (5, .getfield 419, 11, 30, [], .null),
  (8, .bipush 64, 0, 0, [], .int 64),
  (10, .iload_n 1, 1, 0, [], .null),
  (11, .imul, 0, 0, [], .null),
  (12, .iload_n 2, 2, 0, [], .null),
  (13, .iadd, 0, 0, [], .null),
  (14, .iastore, 0, 0, [], .null),
  (15, .iconst 0, 0, 0, [], .int 0),
  (16, .istore_n 3, 3, 0, [], .null),
  (17, .iload_n 3, 3, 0, [], .null),
  (18, .aload_n 0, 0, 0, [], .null),
  (19, .getfield 39, 11, 20, [], .null),
  (22, .iconst 1, 0, 0, [], .int 1),
  (23, .iaload, 0, 0, [], .null),
  (24, .if_icmp .ge 32, 34, 0, [], .null),
  (27, .bipush 7, 0, 0, [], .int 7),
  (29, .aload_n 0, 0, 0, [], .null),
  (30, .getfield 419, 11, 30, [], .null),
  (33, .imul, 0, 0, [], .null),
  (34, .iload_n 3, 3, 0, [], .null),
  (35, .iadd, 0, 0, [], .null),
  (36, .istore 4, 4, 0, [], .null),
  (38, .aload_n 0, 0, 0, [], .null),
  (39, .getfield 58, 11, 29, [], .null),
  (42, .iload 4, 4, 0, [], .null),
  (44, .aload_n 0, 0, 0, [], .null),
  (45, .iload_n 3, 3, 0, [], .null),
  (46, .invokevirtual 416, 217, 0, [], .null),
  (49, .iastore, 0, 0, [], .null),
  (50, .iinc 3 1, 3, 0, [], .int 1),
  (53, .goto (-36), 12, 0, [], .null),
  (56, .aload_n 0, 0, 0, [], .null),
  (57, .dup, 0, 0, [], .null),
  (58, .getfield 419, 11, 30, [], .null),
  (61, .iconst 1, 0, 0, [], .int 1),
  (62, .iadd, 0, 0, [], .null),
  (63, .putfield 419, 11, 30, [], .null),
  (66, .return_, 0, 0, [], .null)]
def xm_m221 : xm_M := (12, ⟨"StairNewsModel", "keepsStart", "(II)V"⟩, prog_14_method_98_code, 5, (Option.none : Option Jvm.ClassFile.FieldType), 2, 0, 0, xm_c221)
def xm_c222 : List xm_E := [(0, .aload_n 0, 0, 0, [], .null),
  (1, .invokevirtual 376, 175, 0, [], .null),
  (4, .ifCond .eq 15, 9, 0, [], .null),
  (7, .iload_n 1, 1, 0, [], .null),
  (8, .i2l, 0, 0, [], .null),
  (9, .lconst 0, 0, 0, [], .long 0),
  (10, .ldc2_w 317, 0, 0, [], .long 2),
  (13, .invokestatic 112, 125, 1, [], .null),
  (16, .ifCond .ne 5, 11, 0, [], .null),
  (19, .iconst (-1), 0, 0, [], .int (-1)),
  (20, .ireturn, 0, 0, [], .null),
  (21, .aload_n 0, 0, 0, [], .null),
  (22, .invokevirtual 432, 220, 0, [], .null),
  (25, .iload_n 1, 1, 0, [], .null),
  (26, .ifCond .ne 8, 18, 0, [], .null),
  (29, .aload_n 0, 0, 0, [], .null),
  (30, .getfield 419, 11, 30, [], .null),
  (33, .ireturn, 0, 0, [], .null),
  (34, .aload_n 0, 0, 0, [], .null),
  (35, .getfield 419, 11, 30, [], .null),
  (38, .ifCond .ne 8, 23, 0, [], .null),
  (41, .bipush (-2), 0, 0, [], .int (-2)),
  (43, .goto 29, 39, 0, [], .null),
  (46, .iload_n 1, 1, 0, [], .null),
  (47, .iconst 1, 0, 0, [], .int 1),
  (48, .if_icmp .ne 15, 33, 0, [], .null),
  (51, .aload_n 0, 0, 0, [], .null),
  (52, .getfield 55, 11, 28, [], .null),
  (55, .iconst 0, 0, 0, [], .int 0),
  (56, .iaload, 0, 0, [], .null),
  (57, .bipush 64, 0, 0, [], .int 64),
  (59, .idiv, 0, 0, [], .null),
  (60, .goto 12, 39, 0, [], .null),
  (63, .aload_n 0, 0, 0, [], .null),
  (64, .getfield 55, 11, 28, [], .null),
  (67, .iconst 0, 0, 0, [], .int 0),
  (68, .iaload, 0, 0, [], .null),
  (69, .bipush 64, 0, 0, [], .int 64),
  (71, .irem, 0, 0, [], .null),
  (72, .ireturn, 0, 0, [], .null)]
def xm_m222 : xm_M := (12, ⟨"StairNewsModel", "starts", "(I)I"⟩, prog_14_method_99_code, 2, (Option.some Jvm.ClassFile.FieldType.int), 1, 0, 0, xm_c222)
def xm_c223 : List xm_E := [(0, .iconst 0, 0, 0, [], .int 0),
  (1, .istore_n 2, 2, 0, [], .null),
  (2, .iconst 0, 0, 0, [], .int 0),
  (3, .istore_n 3, 3, 0, [], .null),
  (4, .iload_n 3, 3, 0, [], .null),
  (5, .aload_n 0, 0, 0, [], .null),
  (6, .getfield 419, 11, 30, [], .null),
  (9, .if_icmp .ge 79, 50, 0, [], .null),
  (12, .iconst 0, 0, 0, [], .int 0),
  (13, .istore 4, 4, 0, [], .null),
  (15, .iconst 0, 0, 0, [], .int 0),
  (16, .istore 5, 5, 0, [], .null),
  (18, .iload 5, 5, 0, [], .null),
  (20, .aload_n 0, 0, 0, [], .null),
  (21, .getfield 419, 11, 30, [], .null),
  (24, .if_icmp .ge 45, 41, 0, [], .null),
  (27, .iload 4, 4, 0, [], .null),
  (29, .aload_n 0, 0, 0, [], .null),
  (30, .getfield 58, 11, 29, [], .null),
  (33, .bipush 7, 0, 0, [], .int 7),
  (35, .iload 5, 5, 0, [], .null),
  (37, .imul, 0, 0, [], .null),
  (38, .iload_n 1, 1, 0, [], .null),
  (39, .iadd, 0, 0, [], .null),
  (40, .iaload, 0, 0, [], .null),
  (41, .aload_n 0, 0, 0, [], .null),
  (42, .getfield 58, 11, 29, [], .null),
  (45, .bipush 7, 0, 0, [], .int 7),
  (47, .iload_n 3, 3, 0, [], .null),
  (48, .imul, 0, 0, [], .null),
  (49, .iload_n 1, 1, 0, [], .null),
  (50, .iadd, 0, 0, [], .null),
  (51, .iaload, 0, 0, [], .null),
  (52, .if_icmp .ne 7, 36, 0, [], .null),
  (55, .iconst 1, 0, 0, [], .int 1),
  (56, .goto 4, 37, 0, [], .null),
  (59, .iconst 0, 0, 0, [], .int 0),
  (60, .iadd, 0, 0, [], .null),
  (61, .istore 4, 4, 0, [], .null),
  (63, .iinc 5 1, 5, 0, [], .int 1),
  (66, .goto (-48), 12, 0, [], .null),
  (69, .iload 4, 4, 0, [], .null),
  (71, .iload_n 2, 2, 0, [], .null),
  (72, .if_icmp .le 8, 46, 0, [], .null),
  (75, .iload 4, 4, 0, [], .null),
  (77, .goto 4, 47, 0, [], .null),
  (80, .iload_n 2, 2, 0, [], .null),
  (81, .istore_n 2, 2, 0, [], .null),
  (82, .iinc 3 1, 3, 0, [], .int 1),
  (85, .goto (-81), 4, 0, [], .null),
  (88, .iload_n 2, 2, 0, [], .null),
  (89, .ireturn, 0, 0, [], .null)]
def xm_m223 : xm_M := (12, ⟨"StairNewsModel", "alikeOf", "(I)I"⟩, prog_14_method_100_code, 6, (Option.some Jvm.ClassFile.FieldType.int), 1, 0, 0, xm_c223)
def xm_c224 : List xm_E := [(0, .aload_n 0, 0, 0, [], .null),
  (1, .invokevirtual 376, 175, 0, [], .null),
  (4, .ifCond .eq 13, 9, 0, [], .null),
  (7, .iload_n 1, 1, 0, [], .null),
  (8, .i2l, 0, 0, [], .null),
  (9, .lconst 0, 0, 0, [], .long 0),
  (10, .lconst 1, 0, 0, [], .long 1),
  (11, .invokestatic 112, 125, 1, [], .null),
  (14, .ifCond .ne 5, 11, 0, [], .null),
  (17, .iconst (-1), 0, 0, [], .int (-1)),
  (18, .ireturn, 0, 0, [], .null),
  (19, .aload_n 0, 0, 0, [], .null),
  (20, .invokevirtual 432, 220, 0, [], .null),
  (23, .bipush (-2), 0, 0, [], .int (-2)),
  (25, .istore_n 2, 2, 0, [], .null),
  (26, .bipush (-2), 0, 0, [], .int (-2)),
  (28, .istore_n 3, 3, 0, [], .null),
  (29, .iconst 0, 0, 0, [], .int 0),
  (30, .istore 4, 4, 0, [], .null),
  (32, .iload 4, 4, 0, [], .null),
  (34, .aload_n 0, 0, 0, [], .null),
  (35, .getfield 39, 11, 20, [], .null),
  (38, .iconst 1, 0, 0, [], .int 1),
  (39, .iaload, 0, 0, [], .null),
  (40, .if_icmp .ge 43, 44, 0, [], .null),
  (43, .aload_n 0, 0, 0, [], .null),
  (44, .getfield 419, 11, 30, [], .null),
  (47, .ifCond .le 36, 44, 0, [], .null),
  (50, .aload_n 0, 0, 0, [], .null),
  (51, .iload 4, 4, 0, [], .null),
  (53, .invokevirtual 435, 223, 0, [], .null),
  (56, .istore 5, 5, 0, [], .null),
  (58, .iload_n 2, 2, 0, [], .null),
  (59, .ifCond .lt 12, 38, 0, [], .null),
  (62, .iload 5, 5, 0, [], .null),
  (64, .iload_n 3, 3, 0, [], .null),
  (65, .if_icmp .lt 6, 38, 0, [], .null),
  (68, .goto 9, 42, 0, [], .null),
  (71, .iload 4, 4, 0, [], .null),
  (73, .istore_n 2, 2, 0, [], .null),
  (74, .iload 5, 5, 0, [], .null),
  (76, .istore_n 3, 3, 0, [], .null),
  (77, .iinc 4 1, 4, 0, [], .int 1),
  (80, .goto (-48), 19, 0, [], .null),
  (83, .iload_n 1, 1, 0, [], .null),
  (84, .ifCond .ne 7, 48, 0, [], .null),
  (87, .iload_n 2, 2, 0, [], .null),
  (88, .goto 4, 49, 0, [], .null),
  (91, .iload_n 3, 3, 0, [], .null),
  (92, .ireturn, 0, 0, [], .null)]
def xm_m224 : xm_M := (12, ⟨"StairNewsModel", "look", "(I)I"⟩, prog_14_method_101_code, 6, (Option.some Jvm.ClassFile.FieldType.int), 1, 0, 0, xm_c224)
def xm_c225 : List xm_E := [(0, .aload_n 0, 0, 0, [], .null),
  (1, .invokevirtual 376, 175, 0, [], .null),
  (4, .ifCond .eq 25, 15, 0, [], .null),
  (7, .iload_n 1, 1, 0, [], .null),
  (8, .i2l, 0, 0, [], .null),
  (9, .lconst 1, 0, 0, [], .long 1),
  (10, .ldc2_w 404, 0, 0, [], .long 60),
  (13, .invokestatic 112, 125, 1, [], .null),
  (16, .ifCond .eq 13, 15, 0, [], .null),
  (19, .iload_n 2, 2, 0, [], .null),
  (20, .i2l, 0, 0, [], .null),
  (21, .lconst 0, 0, 0, [], .long 0),
  (22, .lconst 1, 0, 0, [], .long 1),
  (23, .invokestatic 112, 125, 1, [], .null),
  (26, .ifCond .ne 5, 17, 0, [], .null),
  (29, .iconst (-1), 0, 0, [], .int (-1)),
  (30, .ireturn, 0, 0, [], .null),
  (31, .bipush (-2), 0, 0, [], .int (-2)),
  (33, .istore_n 3, 3, 0, [], .null),
  (34, .bipush (-2), 0, 0, [], .int (-2)),
  (36, .istore 4, 4, 0, [], .null),
  (38, .aload_n 0, 0, 0, [], .null),
  (39, .invokevirtual 395, 207, 0, [], .null),
  (42, .iconst 0, 0, 0, [], .int 0),
  (43, .istore 5, 5, 0, [], .null),
  (45, .iload 5, 5, 0, [], .null),
  (47, .aload_n 0, 0, 0, [], .null),
  (48, .getfield 39, 11, 20, [], .null),
  (51, .iconst 0, 0, 0, [], .int 0),
  (52, .iaload, 0, 0, [], .null),
  (53, .if_icmp .ge 80, 70, 0, [], .null),
  (56, .aload_n 0, 0, 0, [], .null),
  (57, .getfield 39, 11, 20, [], .null),
  (60, .bipush 8, 0, 0, [], .int 8),
  (62, .iaload, 0, 0, [], .null),
  (63, .iload 5, 5, 0, [], .null),
  (65, .invokestatic 325, 126, 1, [], .null),
  (68, .ifCond .eq 6, 39, 0, [], .null),
  (71, .goto 56, 68, 0, [], .null),
  (74, .aload_n 0, 0, 0, [], .null),
  (75, .getfield 39, 11, 20, [], .null),
  (78, .bipush 8, 0, 0, [], .int 8),
  (80, .dup2, 0, 0, [], .null),
  (81, .iaload, 0, 0, [], .null),
  (82, .iconst 1, 0, 0, [], .int 1),
  (83, .iload 5, 5, 0, [], .null),
  (85, .ishl, 0, 0, [], .null),
  (86, .ior, 0, 0, [], .null),
  (87, .iastore, 0, 0, [], .null),
  (88, .aload_n 0, 0, 0, [], .null),
  (89, .iload_n 1, 1, 0, [], .null),
  (90, .invokevirtual 398, 209, 0, [], .null),
  (93, .aload_n 0, 0, 0, [], .null),
  (94, .invokevirtual 335, 181, 0, [], .null),
  (97, .invokestatic 338, 127, 1, [], .null),
  (100, .istore 6, 6, 0, [], .null),
  (102, .aload_n 0, 0, 0, [], .null),
  (103, .invokevirtual 401, 208, 0, [], .null),
  (106, .iload_n 3, 3, 0, [], .null),
  (107, .ifCond .lt 13, 64, 0, [], .null),
  (110, .iload 6, 6, 0, [], .null),
  (112, .iload 4, 4, 0, [], .null),
  (114, .if_icmp .lt 6, 64, 0, [], .null),
  (117, .goto 10, 68, 0, [], .null),
  (120, .iload 5, 5, 0, [], .null),
  (122, .istore_n 3, 3, 0, [], .null),
  (123, .iload 6, 6, 0, [], .null),
  (125, .istore 4, 4, 0, [], .null),
  (127, .iinc 5 1, 5, 0, [], .int 1),
  (130, .goto (-85), 25, 0, [], .null),
  (133, .iload_n 2, 2, 0, [], .null),
  (134, .ifCond .ne 7, 74, 0, [], .null),
  (137, .iload_n 3, 3, 0, [], .null),
  (138, .goto 5, 75, 0, [], .null),
  (141, .iload 4, 4, 0, [], .null),
  (143, .ireturn, 0, 0, [], .null)]
def xm_m225 : xm_M := (12, ⟨"StairNewsModel", "block", "(II)I"⟩, prog_14_method_102_code, 7, (Option.some Jvm.ClassFile.FieldType.int), 2, 0, 0, xm_c225)
def xm_c226 : List xm_E := [(0, .aload_n 0, 0, 0, [], .null),
  (1, .iload_n 1, 1, 0, [], .null),
  (2, .invokevirtual 312, 176, 0, [], .null),
  (5, .ifCond .eq 25, 16, 0, [], .null),
  (8, .iload_n 2, 2, 0, [], .null),
  (9, .i2l, 0, 0, [], .null),
  (10, .lconst 1, 0, 0, [], .long 1),
  (11, .ldc2_w 404, 0, 0, [], .long 60),
  (14, .invokestatic 112, 125, 1, [], .null),
  (17, .ifCond .eq 13, 16, 0, [], .null),
  (20, .iload_n 3, 3, 0, [], .null),
  (21, .i2l, 0, 0, [], .null),
  (22, .lconst 0, 0, 0, [], .long 0),
  (23, .lconst 1, 0, 0, [], .long 1),
  (24, .invokestatic 112, 125, 1, [], .null),
  (27, .ifCond .ne 5, 18, 0, [], .null),
  (30, .iconst (-1), 0, 0, [], .int (-1)),
  (31, .ireturn, 0, 0, [], .null),
  (32, .aload_n 0, 0, 0, [], .null),
  (33, .invokevirtual 406, 213, 0, [], .null),
  (36, .iconst 1, 0, 0, [], .int 1),
  (37, .iload_n 1, 1, 0, [], .null),
  (38, .ishl, 0, 0, [], .null),
  (39, .iconst (-1), 0, 0, [], .int (-1)),
  (40, .ixor, 0, 0, [], .null),
  (41, .iand, 0, 0, [], .null),
  (42, .istore 4, 4, 0, [], .null),
  (44, .bipush (-2), 0, 0, [], .int (-2)),
  (46, .istore 5, 5, 0, [], .null),
  (48, .aload_n 0, 0, 0, [], .null),
  (49, .invokevirtual 395, 207, 0, [], .null),
  (52, .iconst 0, 0, 0, [], .int 0),
  (53, .istore 6, 6, 0, [], .null),
  (55, .iload 6, 6, 0, [], .null),
  (57, .iload 4, 4, 0, [], .null),
  (59, .if_icmp .gt 108, 88, 0, [], .null),
  (62, .iload 6, 6, 0, [], .null),
  (64, .iload 4, 4, 0, [], .null),
  (66, .iconst (-1), 0, 0, [], .int (-1)),
  (67, .ixor, 0, 0, [], .null),
  (68, .iand, 0, 0, [], .null),
  (69, .ifCond .ne 92, 86, 0, [], .null),
  (72, .iload 5, 5, 0, [], .null),
  (74, .ifCond .lt 19, 50, 0, [], .null),
  (77, .iload 6, 6, 0, [], .null),
  (79, .invokestatic 338, 127, 1, [], .null),
  (82, .iload 5, 5, 0, [], .null),
  (84, .invokestatic 338, 127, 1, [], .null),
  (87, .if_icmp .lt 6, 50, 0, [], .null),
  (90, .goto 71, 86, 0, [], .null),
  (93, .iconst 0, 0, 0, [], .int 0),
  (94, .istore 7, 7, 0, [], .null),
  (96, .iload 7, 7, 0, [], .null),
  (98, .aload_n 0, 0, 0, [], .null),
  (99, .getfield 39, 11, 20, [], .null),
  (102, .iconst 1, 0, 0, [], .int 1),
  (103, .iaload, 0, 0, [], .null),
  (104, .if_icmp .ge 36, 75, 0, [], .null),
  (107, .iload 6, 6, 0, [], .null),
  (109, .iload 7, 7, 0, [], .null),
  (111, .invokestatic 325, 126, 1, [], .null),
  (114, .ifCond .eq 20, 73, 0, [], .null),
  (117, .aload_n 0, 0, 0, [], .null),
  (118, .getfield 39, 11, 20, [], .null),
  (121, .bipush 10, 0, 0, [], .int 10),
  (123, .bipush 11, 0, 0, [], .int 11),
  (125, .iload 7, 7, 0, [], .null),
  (127, .imul, 0, 0, [], .null),
  (128, .iadd, 0, 0, [], .null),
  (129, .bipush 6, 0, 0, [], .int 6),
  (131, .iadd, 0, 0, [], .null),
  (132, .iconst 1, 0, 0, [], .int 1),
  (133, .iastore, 0, 0, [], .null),
  (134, .iinc 7 1, 7, 0, [], .int 1),
  (137, .goto (-41), 52, 0, [], .null),
  (140, .aload_n 0, 0, 0, [], .null),
  (141, .iload_n 2, 2, 0, [], .null),
  (142, .invokevirtual 398, 209, 0, [], .null),
  (145, .aload_n 0, 0, 0, [], .null),
  (146, .iload_n 1, 1, 0, [], .null),
  (147, .invokevirtual 306, 179, 0, [], .null),
  (150, .ifCond .ne 7, 84, 0, [], .null),
  (153, .iload 6, 6, 0, [], .null),
  (155, .istore 5, 5, 0, [], .null),
  (157, .aload_n 0, 0, 0, [], .null),
  (158, .invokevirtual 401, 208, 0, [], .null),
  (161, .iinc 6 1, 6, 0, [], .int 1),
  (164, .goto (-109), 33, 0, [], .null),
  (167, .iload 5, 5, 0, [], .null),
  (169, .ifCond .ge 8, 92, 0, [], .null),
  (172, .bipush (-2), 0, 0, [], .int (-2)),
  (174, .goto 17, 98, 0, [], .null),
  (177, .iload_n 3, 3, 0, [], .null),
  (178, .ifCond .ne 11, 97, 0, [], .null),
  (181, .iload 5, 5, 0, [], .null),
  (183, .invokestatic 338, 127, 1, [], .null),
  (186, .goto 5, 98, 0, [], .null),
  (189, .iload 5, 5, 0, [], .null),
  (191, .ireturn, 0, 0, [], .null)]
def xm_m226 : xm_M := (12, ⟨"StairNewsModel", "silence", "(III)I"⟩, prog_14_method_103_code, 8, (Option.some Jvm.ClassFile.FieldType.int), 3, 0, 0, xm_c226)
def xm_c227 : List xm_E := [(0, .iconst 0, 0, 0, [], .int 0),
  (1, .istore_n 2, 2, 0, [], .null),
  (2, .iconst 0, 0, 0, [], .int 0),
  (3, .istore_n 3, 3, 0, [], .null),
  (4, .iload_n 3, 3, 0, [], .null),
  (5, .aload_n 0, 0, 0, [], .null),
  (6, .getfield 39, 11, 20, [], .null),
  (9, .iconst 1, 0, 0, [], .int 1),
  (10, .iaload, 0, 0, [], .null),
  (11, .if_icmp .ge 22, 21, 0, [], .null),
  (14, .iload_n 2, 2, 0, [], .null),
  (15, .aload_n 0, 0, 0, [], .null),
  (16, .iload_n 3, 3, 0, [], .null),
  (17, .iconst 0, 0, 0, [], .int 0),
  (18, .invokevirtual 284, 178, 0, [], .null),
  (21, .iload_n 1, 1, 0, [], .null),
  (22, .invokestatic 390, 203, 1, [], .null),
  (25, .iadd, 0, 0, [], .null),
  (26, .istore_n 2, 2, 0, [], .null),
  (27, .iinc 3 1, 3, 0, [], .int 1),
  (30, .goto (-26), 4, 0, [], .null),
  (33, .iload_n 2, 2, 0, [], .null),
  (34, .ireturn, 0, 0, [], .null)]
def xm_m227 : xm_M := (12, ⟨"StairNewsModel", "flightsTo", "(I)I"⟩, prog_14_method_104_code, 4, (Option.some Jvm.ClassFile.FieldType.int), 1, 0, 0, xm_c227)
def xm_c228 : List xm_E := [(0, .aload_n 0, 0, 0, [], .null),
  (1, .invokevirtual 376, 175, 0, [], .null),
  (4, .ifCond .eq 13, 9, 0, [], .null),
  (7, .iload_n 1, 1, 0, [], .null),
  (8, .i2l, 0, 0, [], .null),
  (9, .lconst 0, 0, 0, [], .long 0),
  (10, .lconst 1, 0, 0, [], .long 1),
  (11, .invokestatic 112, 125, 1, [], .null),
  (14, .ifCond .ne 5, 11, 0, [], .null),
  (17, .iconst (-1), 0, 0, [], .int (-1)),
  (18, .ireturn, 0, 0, [], .null),
  (19, .iconst 0, 0, 0, [], .int 0),
  (20, .istore_n 2, 2, 0, [], .null),
  (21, .iconst 1, 0, 0, [], .int 1),
  (22, .istore_n 3, 3, 0, [], .null),
  (23, .iload_n 3, 3, 0, [], .null),
  (24, .aload_n 0, 0, 0, [], .null),
  (25, .getfield 39, 11, 20, [], .null),
  (28, .iconst 0, 0, 0, [], .int 0),
  (29, .iaload, 0, 0, [], .null),
  (30, .if_icmp .ge 24, 32, 0, [], .null),
  (33, .aload_n 0, 0, 0, [], .null),
  (34, .iload_n 3, 3, 0, [], .null),
  (35, .invokevirtual 438, 227, 0, [], .null),
  (38, .aload_n 0, 0, 0, [], .null),
  (39, .iload_n 2, 2, 0, [], .null),
  (40, .invokevirtual 438, 227, 0, [], .null),
  (43, .if_icmp .ge 5, 30, 0, [], .null),
  (46, .iload_n 3, 3, 0, [], .null),
  (47, .istore_n 2, 2, 0, [], .null),
  (48, .iinc 3 1, 3, 0, [], .int 1),
  (51, .goto (-28), 15, 0, [], .null),
  (54, .iload_n 1, 1, 0, [], .null),
  (55, .ifCond .ne 7, 36, 0, [], .null),
  (58, .iload_n 2, 2, 0, [], .null),
  (59, .goto 8, 39, 0, [], .null),
  (62, .aload_n 0, 0, 0, [], .null),
  (63, .iload_n 2, 2, 0, [], .null),
  (64, .invokevirtual 438, 227, 0, [], .null),
  (67, .ireturn, 0, 0, [], .null)]
def xm_m228 : xm_M := (12, ⟨"StairNewsModel", "meeting", "(I)I"⟩, prog_14_method_105_code, 4, (Option.some Jvm.ClassFile.FieldType.int), 1, 0, 0, xm_c228)
def xm_c229 : List xm_E := [(0, .iconst (-1), 0, 0, [], .int (-1)),
  (1, .istore_n 1, 1, 0, [], .null),
  (2, .iconst 0, 0, 0, [], .int 0),
  (3, .istore_n 2, 2, 0, [], .null),
  (4, .iload_n 2, 2, 0, [], .null),
  (5, .bipush 100, 0, 0, [], .int 100),
  (7, .if_icmp .ge 25, 19, 0, [], .null),
  (10, .aload_n 0, 0, 0, [], .null),
  (11, .invokevirtual 382, 196, 0, [], .null),
  (14, .ifCond .le 12, 17, 0, [], .null),
  (17, .aload_n 0, 0, 0, [], .null),
  (18, .getfield 39, 11, 20, [], .null),
  (21, .iconst 4, 0, 0, [], .int 4),
  (22, .iaload, 0, 0, [], .null),
  (23, .iconst 1, 0, 0, [], .int 1),
  (24, .isub, 0, 0, [], .null),
  (25, .istore_n 1, 1, 0, [], .null),
  (26, .iinc 2 1, 2, 0, [], .int 1),
  (29, .goto (-25), 4, 0, [], .null),
  (32, .aload_n 0, 0, 0, [], .null),
  (33, .invokevirtual 401, 208, 0, [], .null),
  (36, .iload_n 1, 1, 0, [], .null),
  (37, .ireturn, 0, 0, [], .null)]
def xm_m229 : xm_M := (12, ⟨"StairNewsModel", "lastHears", "()I"⟩, prog_14_method_106_code, 3, (Option.some Jvm.ClassFile.FieldType.int), 0, 0, 0, xm_c229)
def xm_c230 : List xm_E := [(0, .aload_n 0, 0, 0, [], .null),
  (1, .iload_n 1, 1, 0, [], .null),
  (2, .invokevirtual 312, 176, 0, [], .null),
  (5, .ifCond .eq 14, 10, 0, [], .null),
  (8, .aload_n 0, 0, 0, [], .null),
  (9, .iload_n 1, 1, 0, [], .null),
  (10, .iconst 3, 0, 0, [], .int 3),
  (11, .invokevirtual 284, 178, 0, [], .null),
  (14, .bipush 9, 0, 0, [], .int 9),
  (16, .if_icmp .ne 7, 12, 0, [], .null),
  (19, .sipush (-1000), 0, 0, [], .int (-1000)),
  (22, .ireturn, 0, 0, [], .null),
  (23, .aload_n 0, 0, 0, [], .null),
  (24, .invokevirtual 395, 207, 0, [], .null),
  (27, .aload_n 0, 0, 0, [], .null),
  (28, .invokevirtual 441, 229, 0, [], .null),
  (31, .istore_n 2, 2, 0, [], .null),
  (32, .aload_n 0, 0, 0, [], .null),
  (33, .getfield 39, 11, 20, [], .null),
  (36, .bipush 10, 0, 0, [], .int 10),
  (38, .bipush 11, 0, 0, [], .int 11),
  (40, .iload_n 1, 1, 0, [], .null),
  (41, .imul, 0, 0, [], .null),
  (42, .iadd, 0, 0, [], .null),
  (43, .iconst 3, 0, 0, [], .int 3),
  (44, .iadd, 0, 0, [], .null),
  (45, .dup2, 0, 0, [], .null),
  (46, .iaload, 0, 0, [], .null),
  (47, .iconst 1, 0, 0, [], .int 1),
  (48, .iadd, 0, 0, [], .null),
  (49, .iastore, 0, 0, [], .null),
  (50, .aload_n 0, 0, 0, [], .null),
  (51, .invokevirtual 441, 229, 0, [], .null),
  (54, .istore_n 3, 3, 0, [], .null),
  (55, .iload_n 3, 3, 0, [], .null),
  (56, .ifCond .lt 7, 38, 0, [], .null),
  (59, .iload_n 2, 2, 0, [], .null),
  (60, .ifCond .ge 9, 40, 0, [], .null),
  (63, .sipush (-1000), 0, 0, [], .int (-1000)),
  (66, .goto 6, 43, 0, [], .null),
  (69, .iload_n 3, 3, 0, [], .null),
  (70, .iload_n 2, 2, 0, [], .null),
  (71, .isub, 0, 0, [], .null),
  (72, .ireturn, 0, 0, [], .null)]
def xm_m230 : xm_M := (12, ⟨"StairNewsModel", "cost", "(I)I"⟩, prog_14_method_107_code, 4, (Option.some Jvm.ClassFile.FieldType.int), 1, 0, 0, xm_c230)
def xm_c231 : List xm_E := [(0, .iload_n 1, 1, 0, [], .null),
  (1, .ifCond .ge 5, 4, 0, [], .null),
  (4, .iconst (-1), 0, 0, [], .int (-1)),
  (5, .ireturn, 0, 0, [], .null),
  (6, .aload_n 0, 0, 0, [], .null),
  (7, .getfield 444, 11, 22, [], .null),
  (10, .istore_n 2, 2, 0, [], .null),
  (11, .aload_n 0, 0, 0, [], .null),
  (12, .iload_n 1, 1, 0, [], .null),
  (13, .putfield 444, 11, 22, [], .null),
  (16, .iload_n 2, 2, 0, [], .null),
  (17, .ireturn, 0, 0, [], .null)]
def xm_m231 : xm_M := (12, ⟨"StairNewsModel", "seed", "(I)I"⟩, prog_14_method_108_code, 3, (Option.some Jvm.ClassFile.FieldType.int), 1, 0, 0, xm_c231)
def xm_c232 : List xm_E := [(0, .aload_n 0, 0, 0, [], .null),
  (1, .aload_n 0, 0, 0, [], .null),
  (2, .getfield 447, 11, 31, [], .null),
  (5, .ldc2_w 451, 0, 0, [], .long 1103515245),
  (8, .lmul, 0, 0, [], .null),
  (9, .ldc2_w 453, 0, 0, [], .long 12345),
  (12, .ladd, 0, 0, [], .null),
  (13, .ldc2_w 455, 0, 0, [], .long 2147483648),
  (16, .lrem, 0, 0, [], .null),
  (17, .putfield 447, 11, 31, [], .null),
  (20, .aload_n 0, 0, 0, [], .null),
  (21, .getfield 447, 11, 31, [], .null),
  (24, .ldc2_w 457, 0, 0, [], .long 65536),
  (27, .ldiv, 0, 0, [], .null),
  (28, .iload_n 1, 1, 0, [], .null),
  (29, .i2l, 0, 0, [], .null),
  (30, .lrem, 0, 0, [], .null),
  (31, .l2i, 0, 0, [], .null),
  (32, .ireturn, 0, 0, [], .null)]
def xm_m232 : xm_M := (12, ⟨"StairNewsModel", "draw", "(I)I"⟩, prog_14_method_109_code, 2, (Option.some Jvm.ClassFile.FieldType.int), 1, 0, 0, xm_c232)
def xm_c233 : List xm_E := [(0, .aload_n 0, 0, 0, [], .null),
  (1, .getfield 39, 11, 20, [], .null),
  (4, .iconst 1, 0, 0, [], .int 1),
  (5, .iaload, 0, 0, [], .null),
  (6, .ifCond .ne 4, 6, 0, [], .null),
  (9, .return_, 0, 0, [], .null),
  (10, .aload_n 0, 0, 0, [], .null),
  (11, .aload_n 0, 0, 0, [], .null),
  (12, .getfield 39, 11, 20, [], .null),
  (15, .iconst 1, 0, 0, [], .int 1),
  (16, .iaload, 0, 0, [], .null),
  (17, .invokevirtual 459, 232, 0, [], .null),
  (20, .istore_n 1, 1, 0, [], .null),
  (21, .aload_n 0, 0, 0, [], .null),
  (22, .aload_n 0, 0, 0, [], .null),
  (23, .getfield 39, 11, 20, [], .null),
  (26, .iconst 0, 0, 0, [], .int 0),
  (27, .iaload, 0, 0, [], .null),
  (28, .invokevirtual 459, 232, 0, [], .null),
  (31, .istore_n 2, 2, 0, [], .null),
  (32, .aload_n 0, 0, 0, [], .null),
  (33, .iload_n 1, 1, 0, [], .null),
  (34, .invokevirtual 358, 180, 0, [], .null),
  (37, .ifCond .eq 19, 34, 0, [], .null),
  (40, .aload_n 0, 0, 0, [], .null),
  (41, .iload_n 1, 1, 0, [], .null),
  (42, .iconst 0, 0, 0, [], .int 0),
  (43, .invokevirtual 284, 178, 0, [], .null),
  (46, .iload_n 2, 2, 0, [], .null),
  (47, .if_icmp .eq 9, 34, 0, [], .null),
  (50, .aload_n 0, 0, 0, [], .null),
  (51, .iload_n 1, 1, 0, [], .null),
  (52, .iload_n 2, 2, 0, [], .null),
  (53, .invokevirtual 364, 187, 0, [], .null),
  (56, .return_, 0, 0, [], .null)]
def xm_m233 : xm_M := (12, ⟨"StairNewsModel", "sendsDrawn", "()V"⟩, prog_14_method_110_code, 3, (Option.none : Option Jvm.ClassFile.FieldType), 0, 0, 0, xm_c233)
def xm_c234 : List xm_E := [(0, .aload_n 0, 0, 0, [], .null),
  (1, .invokevirtual 376, 175, 0, [], .null),
  (4, .ifCond .eq 37, 21, 0, [], .null),
  (7, .iload_n 1, 1, 0, [], .null),
  (8, .i2l, 0, 0, [], .null),
  (9, .lconst 1, 0, 0, [], .long 1),
  (10, .ldc2_w 462, 0, 0, [], .long 10),
  (13, .invokestatic 112, 125, 1, [], .null),
  (16, .ifCond .eq 25, 21, 0, [], .null),
  (19, .iload_n 2, 2, 0, [], .null),
  (20, .i2l, 0, 0, [], .null),
  (21, .lconst 1, 0, 0, [], .long 1),
  (22, .ldc2_w 404, 0, 0, [], .long 60),
  (25, .invokestatic 112, 125, 1, [], .null),
  (28, .ifCond .eq 13, 21, 0, [], .null),
  (31, .iload_n 3, 3, 0, [], .null),
  (32, .i2l, 0, 0, [], .null),
  (33, .lconst 0, 0, 0, [], .long 0),
  (34, .lconst 1, 0, 0, [], .long 1),
  (35, .invokestatic 112, 125, 1, [], .null),
  (38, .ifCond .ne 7, 23, 0, [], .null),
  (41, .ldc_w 464, 0, 0, [], .int (-1000000)),
  (44, .ireturn, 0, 0, [], .null),
  (45, .aload_n 0, 0, 0, [], .null),
  (46, .aload_n 0, 0, 0, [], .null),
  (47, .getfield 444, 11, 22, [], .null),
  (50, .i2l, 0, 0, [], .null),
  (51, .putfield 447, 11, 31, [], .null),
  (54, .iconst 0, 0, 0, [], .int 0),
  (55, .istore 4, 4, 0, [], .null),
  (57, .iconst 0, 0, 0, [], .int 0),
  (58, .istore 5, 5, 0, [], .null),
  (60, .aload_n 0, 0, 0, [], .null),
  (61, .invokevirtual 395, 207, 0, [], .null),
  (64, .iconst 0, 0, 0, [], .int 0),
  (65, .istore 6, 6, 0, [], .null),
  (67, .iload 6, 6, 0, [], .null),
  (69, .iload_n 1, 1, 0, [], .null),
  (70, .if_icmp .ge 95, 84, 0, [], .null),
  (73, .iconst 0, 0, 0, [], .int 0),
  (74, .istore 7, 7, 0, [], .null),
  (76, .iload 7, 7, 0, [], .null),
  (78, .iload_n 2, 2, 0, [], .null),
  (79, .if_icmp .ge 18, 51, 0, [], .null),
  (82, .aload_n 0, 0, 0, [], .null),
  (83, .invokevirtual 465, 233, 0, [], .null),
  (86, .aload_n 0, 0, 0, [], .null),
  (87, .invokevirtual 382, 196, 0, [], .null),
  (90, .pop, 0, 0, [], .null),
  (91, .iinc 7 1, 7, 0, [], .int 1),
  (94, .goto (-18), 41, 0, [], .null),
  (97, .iload 4, 4, 0, [], .null),
  (99, .aload_n 0, 0, 0, [], .null),
  (100, .invokevirtual 335, 181, 0, [], .null),
  (103, .invokestatic 338, 127, 1, [], .null),
  (106, .iadd, 0, 0, [], .null),
  (107, .istore 4, 4, 0, [], .null),
  (109, .iconst 0, 0, 0, [], .int 0),
  (110, .istore 7, 7, 0, [], .null),
  (112, .iload 7, 7, 0, [], .null),
  (114, .aload_n 0, 0, 0, [], .null),
  (115, .getfield 39, 11, 20, [], .null),
  (118, .iconst 1, 0, 0, [], .int 1),
  (119, .iaload, 0, 0, [], .null),
  (120, .if_icmp .ge 35, 80, 0, [], .null),
  (123, .iload 5, 5, 0, [], .null),
  (125, .aload_n 0, 0, 0, [], .null),
  (126, .iload 7, 7, 0, [], .null),
  (128, .invokevirtual 306, 179, 0, [], .null),
  (131, .ifCond .eq 14, 75, 0, [], .null),
  (134, .aload_n 0, 0, 0, [], .null),
  (135, .iload 7, 7, 0, [], .null),
  (137, .bipush 9, 0, 0, [], .int 9),
  (139, .invokevirtual 284, 178, 0, [], .null),
  (142, .goto 4, 76, 0, [], .null),
  (145, .iconst 0, 0, 0, [], .int 0),
  (146, .iadd, 0, 0, [], .null),
  (147, .istore 5, 5, 0, [], .null),
  (149, .iinc 7 1, 7, 0, [], .int 1),
  (152, .goto (-40), 59, 0, [], .null),
  (155, .aload_n 0, 0, 0, [], .null),
  (156, .invokevirtual 401, 208, 0, [], .null),
  (159, .iinc 6 1, 6, 0, [], .int 1),
  (162, .goto (-95), 36, 0, [], .null),
  (165, .iload_n 3, 3, 0, [], .null),
  (166, .ifCond .ne 8, 88, 0, [], .null),
  (169, .iload 4, 4, 0, [], .null),
  (171, .goto 5, 89, 0, [], .null),
  (174, .iload 5, 5, 0, [], .null),
  (176, .ireturn, 0, 0, [], .null)]
def xm_m234 : xm_M := (12, ⟨"StairNewsModel", "evenings", "(III)I"⟩, prog_14_method_111_code, 8, (Option.some Jvm.ClassFile.FieldType.int), 3, 0, 0, xm_c234)
def xm_c235 : List xm_E := [(0, .iconst 0, 0, 0, [], .int 0),
  (1, .istore_n 2, 2, 0, [], .null),
  (2, .iload_n 1, 1, 0, [], .null),
  (3, .tableswitch 163 0 12 #[65, 65, 65, 72, 77, 82, 89, 94, 132, 141, 146, 151, 156], 66, 0, [4, 4, 4, 9, 12, 15, 20, 23, 47, 52, 55, 58, 61], .null),
  (68, .aload_n 0, 0, 0, [], .null),
  (69, .getfield 39, 11, 20, [], .null),
  (72, .iload_n 1, 1, 0, [], .null),
  (73, .iaload, 0, 0, [], .null),
  (74, .ireturn, 0, 0, [], .null),
  (75, .aload_n 0, 0, 0, [], .null),
  (76, .getfield 278, 11, 2, [], .null),
  (79, .ireturn, 0, 0, [], .null),
  (80, .aload_n 0, 0, 0, [], .null),
  (81, .getfield 42, 11, 21, [], .null),
  (84, .ireturn, 0, 0, [], .null),
  (85, .aload_n 0, 0, 0, [], .null),
  (86, .getfield 39, 11, 20, [], .null),
  (89, .iconst 4, 0, 0, [], .int 4),
  (90, .iaload, 0, 0, [], .null),
  (91, .ireturn, 0, 0, [], .null),
  (92, .aload_n 0, 0, 0, [], .null),
  (93, .invokevirtual 335, 181, 0, [], .null),
  (96, .ireturn, 0, 0, [], .null),
  (97, .iconst 0, 0, 0, [], .int 0),
  (98, .istore_n 3, 3, 0, [], .null),
  (99, .iload_n 3, 3, 0, [], .null),
  (100, .aload_n 0, 0, 0, [], .null),
  (101, .getfield 39, 11, 20, [], .null),
  (104, .iconst 1, 0, 0, [], .int 1),
  (105, .iaload, 0, 0, [], .null),
  (106, .if_icmp .ge 27, 45, 0, [], .null),
  (109, .iload_n 2, 2, 0, [], .null),
  (110, .aload_n 0, 0, 0, [], .null),
  (111, .iload_n 3, 3, 0, [], .null),
  (112, .invokevirtual 358, 180, 0, [], .null),
  (115, .ifCond .eq 7, 38, 0, [], .null),
  (118, .iconst 0, 0, 0, [], .int 0),
  (119, .goto 6, 41, 0, [], .null),
  (122, .iconst 1, 0, 0, [], .int 1),
  (123, .iload_n 3, 3, 0, [], .null),
  (124, .ishl, 0, 0, [], .null),
  (125, .ior, 0, 0, [], .null),
  (126, .istore_n 2, 2, 0, [], .null),
  (127, .iinc 3 1, 3, 0, [], .int 1),
  (130, .goto (-31), 25, 0, [], .null),
  (133, .iload_n 2, 2, 0, [], .null),
  (134, .ireturn, 0, 0, [], .null),
  (135, .aload_n 0, 0, 0, [], .null),
  (136, .getfield 39, 11, 20, [], .null),
  (139, .sipush 137, 0, 0, [], .int 137),
  (142, .iaload, 0, 0, [], .null),
  (143, .ireturn, 0, 0, [], .null),
  (144, .aload_n 0, 0, 0, [], .null),
  (145, .getfield 288, 11, 26, [], .null),
  (148, .ireturn, 0, 0, [], .null),
  (149, .aload_n 0, 0, 0, [], .null),
  (150, .getfield 444, 11, 22, [], .null),
  (153, .ireturn, 0, 0, [], .null),
  (154, .aload_n 0, 0, 0, [], .null),
  (155, .getfield 74, 11, 1, [], .null),
  (158, .ireturn, 0, 0, [], .null),
  (159, .aload_n 0, 0, 0, [], .null),
  (160, .getfield 39, 11, 20, [], .null),
  (163, .iconst 5, 0, 0, [], .int 5),
  (164, .iaload, 0, 0, [], .null),
  (165, .ireturn, 0, 0, [], .null),
  (166, .iconst (-1), 0, 0, [], .int (-1)),
  (167, .ireturn, 0, 0, [], .null)]
def xm_m235 : xm_M := (12, ⟨"StairNewsModel", "count", "(I)I"⟩, prog_14_method_112_code, 4, (Option.some Jvm.ClassFile.FieldType.int), 1, 0, 0, xm_c235)
def xm_c236 : List xm_E := [(0, .iload_n 1, 1, 0, [], .null),
  (1, .i2l, 0, 0, [], .null),
  (2, .lconst 0, 0, 0, [], .long 0),
  (3, .ldc2_w 468, 0, 0, [], .long 3),
  (6, .invokestatic 112, 125, 1, [], .null),
  (9, .ifCond .ne 5, 8, 0, [], .null),
  (12, .iconst (-1), 0, 0, [], .int (-1)),
  (13, .ireturn, 0, 0, [], .null),
  (14, .aload_n 0, 0, 0, [], .null),
  (15, .getfield 70, 11, 35, [], .null),
  (18, .iload_n 1, 1, 0, [], .null),
  (19, .iconst 1, 0, 0, [], .int 1),
  (20, .bastore, 0, 0, [], .null),
  (21, .aload_n 0, 0, 0, [], .null),
  (22, .getfield 64, 11, 33, [], .null),
  (25, .iload_n 1, 1, 0, [], .null),
  (26, .aload_n 0, 0, 0, [], .null),
  (27, .getfield 42, 11, 21, [], .null),
  (30, .iastore, 0, 0, [], .null),
  (31, .aload_n 0, 0, 0, [], .null),
  (32, .getfield 67, 11, 34, [], .null),
  (35, .iload_n 1, 1, 0, [], .null),
  (36, .aload_n 0, 0, 0, [], .null),
  (37, .getfield 444, 11, 22, [], .null),
  (40, .iastore, 0, 0, [], .null),
  (41, .iconst 0, 0, 0, [], .int 0),
  (42, .istore_n 2, 2, 0, [], .null),
  (43, .iload_n 2, 2, 0, [], .null),
  (44, .sipush 146, 0, 0, [], .int 146),
  (47, .if_icmp .ge 27, 44, 0, [], .null),
  (50, .aload_n 0, 0, 0, [], .null),
  (51, .getfield 61, 11, 32, [], .null),
  (54, .sipush 146, 0, 0, [], .int 146),
  (57, .iload_n 1, 1, 0, [], .null),
  (58, .imul, 0, 0, [], .null),
  (59, .iload_n 2, 2, 0, [], .null),
  (60, .iadd, 0, 0, [], .null),
  (61, .aload_n 0, 0, 0, [], .null),
  (62, .getfield 39, 11, 20, [], .null),
  (65, .iload_n 2, 2, 0, [], .null),
  (66, .iaload, 0, 0, [], .null),
  (67, .iastore, 0, 0, [], .null),
  (68, .iinc 2 1, 2, 0, [], .int 1),
  (71, .goto (-28), 27, 0, [], .null),
  (74, .aload_n 0, 0, 0, [], .null),
  (75, .getfield 39, 11, 20, [], .null),
  (78, .iconst 4, 0, 0, [], .int 4),
  (79, .iaload, 0, 0, [], .null),
  (80, .ireturn, 0, 0, [], .null)]
def xm_m236 : xm_M := (12, ⟨"StairNewsModel", "image", "(I)I"⟩, prog_14_method_113_code, 3, (Option.some Jvm.ClassFile.FieldType.int), 1, 0, 0, xm_c236)
def xm_c237 : List xm_E := [(0, .iload_n 1, 1, 0, [], .null),
  (1, .i2l, 0, 0, [], .null),
  (2, .lconst 0, 0, 0, [], .long 0),
  (3, .ldc2_w 468, 0, 0, [], .long 3),
  (6, .invokestatic 112, 125, 1, [], .null),
  (9, .ifCond .eq 12, 11, 0, [], .null),
  (12, .aload_n 0, 0, 0, [], .null),
  (13, .getfield 70, 11, 35, [], .null),
  (16, .iload_n 1, 1, 0, [], .null),
  (17, .baload, 0, 0, [], .null),
  (18, .ifCond .ne 5, 13, 0, [], .null),
  (21, .iconst (-1), 0, 0, [], .int (-1)),
  (22, .ireturn, 0, 0, [], .null),
  (23, .aload_n 0, 0, 0, [], .null),
  (24, .aload_n 0, 0, 0, [], .null),
  (25, .getfield 64, 11, 33, [], .null),
  (28, .iload_n 1, 1, 0, [], .null),
  (29, .iaload, 0, 0, [], .null),
  (30, .putfield 42, 11, 21, [], .null),
  (33, .aload_n 0, 0, 0, [], .null),
  (34, .aload_n 0, 0, 0, [], .null),
  (35, .getfield 67, 11, 34, [], .null),
  (38, .iload_n 1, 1, 0, [], .null),
  (39, .iaload, 0, 0, [], .null),
  (40, .putfield 444, 11, 22, [], .null),
  (43, .aload_n 0, 0, 0, [], .null),
  (44, .iconst 0, 0, 0, [], .int 0),
  (45, .putfield 288, 11, 26, [], .null),
  (48, .iconst 0, 0, 0, [], .int 0),
  (49, .istore_n 2, 2, 0, [], .null),
  (50, .iload_n 2, 2, 0, [], .null),
  (51, .sipush 146, 0, 0, [], .int 146),
  (54, .if_icmp .ge 27, 47, 0, [], .null),
  (57, .aload_n 0, 0, 0, [], .null),
  (58, .getfield 39, 11, 20, [], .null),
  (61, .iload_n 2, 2, 0, [], .null),
  (62, .aload_n 0, 0, 0, [], .null),
  (63, .getfield 61, 11, 32, [], .null),
  (66, .sipush 146, 0, 0, [], .int 146),
  (69, .iload_n 1, 1, 0, [], .null),
  (70, .imul, 0, 0, [], .null),
  (71, .iload_n 2, 2, 0, [], .null),
  (72, .iadd, 0, 0, [], .null),
  (73, .iaload, 0, 0, [], .null),
  (74, .iastore, 0, 0, [], .null),
  (75, .iinc 2 1, 2, 0, [], .int 1),
  (78, .goto (-28), 30, 0, [], .null),
  (81, .aload_n 0, 0, 0, [], .null),
  (82, .getfield 39, 11, 20, [], .null),
  (85, .iconst 4, 0, 0, [], .int 4),
  (86, .iaload, 0, 0, [], .null),
  (87, .ireturn, 0, 0, [], .null)]
def xm_m237 : xm_M := (12, ⟨"StairNewsModel", "back", "(I)I"⟩, prog_14_method_114_code, 3, (Option.some Jvm.ClassFile.FieldType.int), 1, 0, 0, xm_c237)
def xm_c238 : List xm_E := [(0, .iload_n 0, 0, 0, [], .null),
  (1, .iconst (-1), 0, 0, [], .int (-1)),
  (2, .ixor, 0, 0, [], .null),
  (3, .iload_n 0, 0, 0, [], .null),
  (4, .iconst 1, 0, 0, [], .int 1),
  (5, .isub, 0, 0, [], .null),
  (6, .iand, 0, 0, [], .null),
  (7, .istore_n 0, 0, 0, [], .null),
  (8, .iload_n 0, 0, 0, [], .null),
  (9, .ifCond .gt 8, 14, 0, [], .null),
  (12, .iload_n 0, 0, 0, [], .null),
  (13, .bipush 32, 0, 0, [], .int 32),
  (15, .iand, 0, 0, [], .null),
  (16, .ireturn, 0, 0, [], .null),
  (17, .iconst 1, 0, 0, [], .int 1),
  (18, .istore_n 1, 1, 0, [], .null),
  (19, .iload_n 0, 0, 0, [], .null),
  (20, .ldc_w 264, 0, 0, [], .int 65536),
  (23, .if_icmp .le 11, 24, 0, [], .null),
  (26, .iinc 1 16, 1, 0, [], .int 16),
  (29, .iload_n 0, 0, 0, [], .null),
  (30, .bipush 16, 0, 0, [], .int 16),
  (32, .iushr, 0, 0, [], .null),
  (33, .istore_n 0, 0, 0, [], .null),
  (34, .iload_n 0, 0, 0, [], .null),
  (35, .sipush 256, 0, 0, [], .int 256),
  (38, .if_icmp .le 11, 32, 0, [], .null),
  (41, .iinc 1 8, 1, 0, [], .int 8),
  (44, .iload_n 0, 0, 0, [], .null),
  (45, .bipush 8, 0, 0, [], .int 8),
  (47, .iushr, 0, 0, [], .null),
  (48, .istore_n 0, 0, 0, [], .null),
  (49, .iload_n 0, 0, 0, [], .null),
  (50, .bipush 16, 0, 0, [], .int 16),
  (52, .if_icmp .le 10, 40, 0, [], .null),
  (55, .iinc 1 4, 1, 0, [], .int 4),
  (58, .iload_n 0, 0, 0, [], .null),
  (59, .iconst 4, 0, 0, [], .int 4),
  (60, .iushr, 0, 0, [], .null),
  (61, .istore_n 0, 0, 0, [], .null),
  (62, .iload_n 0, 0, 0, [], .null),
  (63, .iconst 4, 0, 0, [], .int 4),
  (64, .if_icmp .le 10, 48, 0, [], .null),
  (67, .iinc 1 2, 1, 0, [], .int 2),
  (70, .iload_n 0, 0, 0, [], .null),
  (71, .iconst 2, 0, 0, [], .int 2),
  (72, .iushr, 0, 0, [], .null),
  (73, .istore_n 0, 0, 0, [], .null),
  (74, .iload_n 1, 1, 0, [], .null),
  (75, .iload_n 0, 0, 0, [], .null),
  (76, .iconst 1, 0, 0, [], .int 1),
  (77, .iushr, 0, 0, [], .null),
  (78, .iadd, 0, 0, [], .null),
  (79, .ireturn, 0, 0, [], .null)]
def xm_m238 : xm_M := (16, ⟨"java/lang/Integer", "numberOfTrailingZeros", "(I)I"⟩, prog_15_method_48_code, 2, (Option.some Jvm.ClassFile.FieldType.int), 1, 0, 0, xm_c238)
def xm_c239 : List xm_E := [(0, .iload_n 0, 0, 0, [], .null),
  (1, .iload_n 0, 0, 0, [], .null),
  (2, .iconst 1, 0, 0, [], .int 1),
  (3, .iushr, 0, 0, [], .null),
  (4, .ldc_w 265, 0, 0, [], .int 1431655765),
  (7, .iand, 0, 0, [], .null),
  (8, .isub, 0, 0, [], .null),
  (9, .istore_n 0, 0, 0, [], .null),
  (10, .iload_n 0, 0, 0, [], .null),
  (11, .ldc_w 266, 0, 0, [], .int 858993459),
  (14, .iand, 0, 0, [], .null),
  (15, .iload_n 0, 0, 0, [], .null),
  (16, .iconst 2, 0, 0, [], .int 2),
  (17, .iushr, 0, 0, [], .null),
  (18, .ldc_w 266, 0, 0, [], .int 858993459),
  (21, .iand, 0, 0, [], .null),
  (22, .iadd, 0, 0, [], .null),
  (23, .istore_n 0, 0, 0, [], .null),
  (24, .iload_n 0, 0, 0, [], .null),
  (25, .iload_n 0, 0, 0, [], .null),
  (26, .iconst 4, 0, 0, [], .int 4),
  (27, .iushr, 0, 0, [], .null),
  (28, .iadd, 0, 0, [], .null),
  (29, .ldc_w 267, 0, 0, [], .int 252645135),
  (32, .iand, 0, 0, [], .null),
  (33, .istore_n 0, 0, 0, [], .null),
  (34, .iload_n 0, 0, 0, [], .null),
  (35, .iload_n 0, 0, 0, [], .null),
  (36, .bipush 8, 0, 0, [], .int 8),
  (38, .iushr, 0, 0, [], .null),
  (39, .iadd, 0, 0, [], .null),
  (40, .istore_n 0, 0, 0, [], .null),
  (41, .iload_n 0, 0, 0, [], .null),
  (42, .iload_n 0, 0, 0, [], .null),
  (43, .bipush 16, 0, 0, [], .int 16),
  (45, .iushr, 0, 0, [], .null),
  (46, .iadd, 0, 0, [], .null),
  (47, .istore_n 0, 0, 0, [], .null),
  (48, .iload_n 0, 0, 0, [], .null),
  (49, .bipush 63, 0, 0, [], .int 63),
  (51, .iand, 0, 0, [], .null),
  (52, .ireturn, 0, 0, [], .null)]
def xm_m239 : xm_M := (16, ⟨"java/lang/Integer", "bitCount", "(I)I"⟩, prog_15_method_49_code, 1, (Option.some Jvm.ClassFile.FieldType.int), 1, 0, 0, xm_c239)
def xm_c240 : List xm_E := [(0, .iconst 0, 0, 0, [], .int 0),
  (1, .istore_n 2, 2, 0, [], .null),
  (2, .aload_n 0, 0, 0, [], .null),
  (3, .arraylength, 0, 0, [], .null),
  (4, .istore_n 3, 3, 0, [], .null),
  (5, .iload_n 2, 2, 0, [], .null),
  (6, .iload_n 3, 3, 0, [], .null),
  (7, .if_icmp .ge 13, 14, 0, [], .null),
  (10, .aload_n 0, 0, 0, [], .null),
  (11, .iload_n 2, 2, 0, [], .null),
  (12, .iload_n 1, 1, 0, [], .null),
  (13, .iastore, 0, 0, [], .null),
  (14, .iinc 2 1, 2, 0, [], .int 1),
  (17, .goto (-12), 5, 0, [], .null),
  (20, .return_, 0, 0, [], .null)]
def xm_m240 : xm_M := (14, ⟨"java/util/Arrays", "fill", "([II)V"⟩, prog_21_method_103_code, 4, (Option.none : Option Jvm.ClassFile.FieldType), 2, 0, 0, xm_c240)
end
section
def xm_mf : List (Nat × Nat × Nat × Nat × Nat) := [(9, 0, 0, 0, 0), (1, 96, 262, 0, 263), (2, 96, 808, 809, 810), (2, 96, 690, 691, 692), (2, 96, 843, 844, 845), (2, 96, 847, 848, 849), (2, 96, 1084, 1085, 1086), (2, 96, 792, 793, 794), (2, 96, 834, 835, 836), (2, 96, 839, 6, 840), (2, 96, 852, 7, 853), (1, 102, 426, 0, 427), (2, 102, 938, 939, 940), (2, 102, 856, 857, 858), (0, 102, 866, 0, 867), (2, 102, 871, 8, 872), (1, 100, 389, 0, 390), (2, 100, 804, 805, 806), (2, 100, 921, 922, 923), (2, 100, 700, 701, 702), (1, 95, 161, 0, 162), (2, 95, 800, 801, 802), (2, 95, 788, 789, 790), (2, 95, 773, 774, 775), (2, 95, 576, 577, 578), (2, 95, 683, 684, 685), (2, 95, 671, 672, 673), (2, 95, 660, 661, 662), (2, 95, 664, 665, 666), (0, 105, 565, 0, 566), (0, 105, 581, 0, 582), (0, 105, 641, 0, 642), (0, 105, 645, 0, 646), (0, 105, 648, 0, 649), (0, 105, 668, 0, 669), (1, 97, 296, 0, 297), (2, 97, 696, 697, 698), (2, 97, 812, 813, 814), (2, 97, 886, 887, 888), (2, 97, 1076, 1077, 1078), (2, 97, 998, 999, 1000), (1, 101, 416, 0, 417), (2, 101, 824, 825, 826), (2, 101, 830, 831, 832), (2, 101, 930, 931, 932), (2, 101, 934, 935, 936), (2, 101, 961, 962, 963), (2, 101, 1034, 1035, 1036), (2, 101, 966, 10, 967), (0, 101, 973, 0, 974), (2, 101, 988, 989, 990), (2, 101, 1004, 11, 1005), (2, 101, 1012, 1013, 1014), (2, 101, 1017, 12, 1018), (2, 101, 1026, 1027, 1028), (2, 101, 1050, 1051, 1052), (2, 101, 1063, 1064, 1065), (0, 101, 1067, 0, 1068), (1, 103, 501, 0, 502), (2, 103, 713, 714, 715), (2, 103, 730, 731, 732), (2, 103, 738, 739, 740), (2, 103, 760, 761, 762), (2, 103, 874, 875, 876), (2, 103, 879, 9, 880), (1, 99, 373, 0, 374), (2, 99, 708, 709, 710), (2, 99, 744, 2, 745), (2, 99, 748, 3, 749), (2, 99, 753, 4, 754), (0, 99, 756, 0, 757), (2, 99, 722, 0, 723), (0, 99, 735, 0, 736), (2, 99, 726, 1, 727), (1, 94, 155, 0, 156), (2, 94, 679, 680, 681), (2, 94, 1092, 1093, 1094), (2, 94, 994, 995, 996), (1, 93, 124, 0, 125), (2, 93, 553, 554, 555), (2, 93, 568, 569, 570), (2, 93, 637, 638, 639), (2, 93, 572, 573, 574), (2, 93, 585, 586, 587), (2, 93, 655, 656, 657), (2, 93, 651, 652, 653), (2, 93, 675, 676, 677), (1, 92, 116, 0, 117), (2, 92, 549, 550, 551), (2, 92, 557, 558, 559), (2, 92, 561, 562, 563), (2, 92, 704, 705, 706), (2, 92, 765, 766, 767), (2, 92, 769, 770, 771), (2, 92, 780, 781, 782), (2, 92, 784, 785, 786), (2, 92, 796, 797, 798), (2, 92, 895, 896, 897), (2, 92, 900, 901, 902), (2, 92, 909, 910, 911), (2, 92, 913, 914, 915), (2, 92, 917, 918, 919), (2, 92, 926, 927, 928), (2, 92, 943, 944, 945), (2, 92, 947, 948, 949), (2, 92, 951, 952, 953), (2, 92, 980, 981, 982), (2, 92, 984, 985, 986), (2, 92, 1008, 1009, 1010), (2, 92, 1022, 1023, 1024), (2, 92, 1030, 1031, 1032), (2, 92, 1038, 1039, 1040), (2, 92, 1046, 1047, 1048), (2, 92, 1054, 1055, 1056), (2, 92, 1058, 1059, 1060), (2, 92, 1080, 1081, 1082), (2, 92, 1088, 1089, 1090), (2, 92, 1099, 1100, 1101), (2, 92, 821, 5, 822), (2, 92, 1043, 13, 1044), (0, 92, 777, 0, 778), (0, 92, 955, 0, 956), (0, 92, 958, 0, 959), (0, 92, 977, 0, 978), (1, 104, 1105, 0, 1106), (0, 104, 1299, 0, 1300), (0, 104, 1494, 0, 1495), (0, 104, 1521, 0, 1522), (2, 104, 1224, 14, 1225), (2, 104, 1219, 1220, 1221), (2, 104, 1227, 1228, 1229), (2, 104, 1272, 21, 1273), (2, 104, 1244, 17, 1245), (2, 104, 1296, 27, 1297), (2, 104, 1257, 20, 1258), (2, 104, 1253, 19, 1254), (2, 104, 1284, 24, 1285), (2, 104, 1375, 43, 1376), (2, 104, 1292, 26, 1293), (2, 104, 1360, 42, 1361), (2, 104, 1356, 41, 1357), (2, 104, 1352, 40, 1353), (2, 104, 1388, 46, 1389), (0, 104, 1403, 0, 1404), (2, 104, 1400, 49, 1401), (2, 104, 1347, 39, 1348), (2, 104, 1343, 38, 1344), (2, 104, 1339, 37, 1340), (2, 104, 1392, 47, 1393), (2, 104, 1383, 45, 1384), (2, 104, 1407, 50, 1408), (2, 104, 1396, 48, 1397), (2, 104, 1379, 44, 1380), (2, 104, 1335, 36, 1336), (2, 104, 1288, 25, 1289), (2, 104, 1280, 23, 1281), (2, 104, 1303, 28, 1304), (2, 104, 1307, 29, 1308), (2, 104, 1311, 30, 1312), (2, 104, 1315, 31, 1316), (2, 104, 1319, 32, 1320), (2, 104, 1323, 33, 1324), (2, 104, 1327, 34, 1328), (2, 104, 1331, 35, 1332), (2, 104, 1276, 22, 1277), (2, 104, 1248, 18, 1249), (2, 104, 1240, 16, 1241), (2, 104, 1236, 15, 1237), (2, 104, 1231, 1232, 1233), (2, 104, 1412, 1413, 1414), (2, 104, 1425, 52, 1426), (2, 104, 1533, 72, 1534), (2, 104, 1537, 73, 1538), (0, 104, 1540, 0, 1541), (2, 104, 1529, 71, 1530), (2, 104, 1459, 55, 1460), (2, 104, 1433, 53, 1434), (2, 104, 1447, 54, 1448), (2, 104, 1417, 51, 1418), (2, 104, 1491, 63, 1492), (2, 104, 1471, 58, 1472), (2, 104, 1518, 69, 1519), (2, 104, 1506, 66, 1507), (2, 104, 1420, 1421, 1422), (2, 104, 1428, 1429, 1430), (2, 104, 1437, 1438, 1439), (2, 104, 1442, 1443, 1444), (2, 104, 1479, 60, 1480), (2, 104, 1475, 59, 1476), (2, 104, 1483, 61, 1484), (2, 104, 1502, 65, 1503), (2, 104, 1510, 67, 1511), (2, 104, 1514, 68, 1515), (2, 104, 1525, 70, 1526), (2, 104, 1498, 64, 1499), (2, 104, 1487, 62, 1488), (2, 104, 1467, 57, 1468), (2, 104, 1544, 74, 1545), (2, 104, 1463, 56, 1464), (2, 104, 1450, 1451, 1452), (2, 104, 1454, 1455, 1456), (2, 104, 1553, 75, 1554), (2, 104, 1547, 1548, 1549), (0, 104, 1560, 0, 1561), (2, 104, 1556, 1557, 1558), (2, 104, 1563, 1564, 1565), (2, 104, 1567, 1568, 1569), (2, 104, 1577, 76, 1578), (2, 104, 1585, 78, 1586), (2, 104, 1581, 77, 1582), (2, 104, 1571, 1572, 1573), (2, 104, 1588, 1589, 1590), (2, 104, 1592, 1593, 1594), (2, 104, 1602, 79, 1603), (2, 104, 1606, 80, 1607), (2, 104, 1596, 1597, 1598), (2, 104, 1609, 1610, 1611), (2, 104, 1632, 84, 1633), (2, 104, 1628, 83, 1629), (2, 104, 1624, 82, 1625), (2, 104, 1620, 81, 1621), (2, 104, 1636, 85, 1637), (2, 104, 1615, 1616, 1617), (2, 104, 1644, 86, 1645), (2, 104, 1639, 1640, 1641), (2, 104, 1647, 1648, 1649), (2, 104, 1651, 1652, 1653), (2, 104, 1660, 87, 1661), (2, 104, 1655, 1656, 1657), (2, 104, 1668, 88, 1669), (2, 104, 1663, 1664, 1665), (2, 104, 1671, 1672, 1673), (2, 104, 1686, 90, 1687), (2, 104, 1682, 89, 1683), (2, 104, 1675, 1676, 1677), (2, 104, 1693, 1694, 1695), (2, 104, 1697, 1698, 1699), (2, 104, 1702, 1703, 1704), (0, 112, 882, 0, 883), (0, 112, 860, 0, 861), (0, 98, 300, 0, 301)]
def xm_ci : List (Nat × Nat × List Nat) := [(260, 96, [280, 282, 284, 286, 288, 290]), (424, 102, [438, 440, 442, 444, 446, 448]), (387, 100, [403, 405, 407, 409]), (159, 95, [223, 225, 227, 229, 231, 233, 235, 237, 239, 241, 243, 245, 247, 249, 251, 253, 255]), (294, 97, [315, 317, 319, 321]), (414, 101, [472, 474, 476, 478, 480, 482, 484, 486, 488, 490, 492, 494, 496]), (499, 103, [509, 511, 513, 515, 517]), (371, 99, [379, 381, 383]), (153, 94, [347, 349, 351, 353, 355, 357, 359, 361, 363]), (122, 93, [138, 140, 142, 144, 146, 148]), (114, 92, [529, 531, 533, 535, 537, 539, 541, 543, 545]), (1103, 104, [1144, 1146, 1148, 1150, 1152, 1154, 1156, 1158, 1160, 1162, 1164, 1166, 1168, 1170, 1172, 1174, 1176, 1178, 1180, 1182, 1184, 1186, 1188, 1190, 1192, 1194, 1196, 1198, 1200, 1202, 1204, 1206, 1208, 1210, 1212, 1214])]
def xm_mtab : List xm_M := [xm_m0, xm_m1, xm_m2, xm_m3, xm_m4, xm_m5, xm_m6, xm_m7, xm_m8, xm_m9, xm_m10, xm_m11, xm_m12, xm_m13, xm_m14, xm_m15, xm_m16, xm_m17, xm_m18, xm_m19, xm_m20, xm_m21, xm_m22, xm_m23, xm_m24, xm_m25, xm_m26, xm_m27, xm_m28, xm_m29, xm_m30, xm_m31, xm_m32, xm_m33, xm_m34, xm_m35, xm_m36, xm_m37, xm_m38, xm_m39, xm_m40, xm_m41, xm_m42, xm_m43, xm_m44, xm_m45, xm_m46, xm_m47, xm_m48, xm_m49, xm_m50, xm_m51, xm_m52, xm_m53, xm_m54, xm_m55, xm_m56, xm_m57, xm_m58, xm_m59, xm_m60, xm_m61, xm_m62, xm_m63, xm_m64, xm_m65, xm_m66, xm_m67, xm_m68, xm_m69, xm_m70, xm_m71, xm_m72, xm_m73, xm_m74, xm_m75, xm_m76, xm_m77, xm_m78, xm_m79, xm_m80, xm_m81, xm_m82, xm_m83, xm_m84, xm_m85, xm_m86, xm_m87, xm_m88, xm_m89, xm_m90, xm_m91, xm_m92, xm_m93, xm_m94, xm_m95, xm_m96, xm_m97, xm_m98, xm_m99, xm_m100, xm_m101, xm_m102, xm_m103, xm_m104, xm_m105, xm_m106, xm_m107, xm_m108, xm_m109, xm_m110, xm_m111, xm_m112, xm_m113, xm_m114, xm_m115, xm_m116, xm_m117, xm_m118, xm_m119, xm_m120, xm_m121, xm_m122, xm_m123, xm_m124, xm_m125, xm_m126, xm_m127, xm_m128, xm_m129, xm_m130, xm_m131, xm_m132, xm_m133, xm_m134, xm_m135, xm_m136, xm_m137, xm_m138, xm_m139, xm_m140, xm_m141, xm_m142, xm_m143, xm_m144, xm_m145, xm_m146, xm_m147, xm_m148, xm_m149, xm_m150, xm_m151, xm_m152, xm_m153, xm_m154, xm_m155, xm_m156, xm_m157, xm_m158, xm_m159, xm_m160, xm_m161, xm_m162, xm_m163, xm_m164, xm_m165, xm_m166, xm_m167, xm_m168, xm_m169, xm_m170, xm_m171, xm_m172, xm_m173, xm_m174, xm_m175, xm_m176, xm_m177, xm_m178, xm_m179, xm_m180, xm_m181, xm_m182, xm_m183, xm_m184, xm_m185, xm_m186, xm_m187, xm_m188, xm_m189, xm_m190, xm_m191, xm_m192, xm_m193, xm_m194, xm_m195, xm_m196, xm_m197, xm_m198, xm_m199, xm_m200, xm_m201, xm_m202, xm_m203, xm_m204, xm_m205, xm_m206, xm_m207, xm_m208, xm_m209, xm_m210, xm_m211, xm_m212, xm_m213, xm_m214, xm_m215, xm_m216, xm_m217, xm_m218, xm_m219, xm_m220, xm_m221, xm_m222, xm_m223, xm_m224, xm_m225, xm_m226, xm_m227, xm_m228, xm_m229, xm_m230, xm_m231, xm_m232, xm_m233, xm_m234, xm_m235, xm_m236, xm_m237, xm_m238, xm_m239, xm_m240]
end
section
/-! the machine's lists are lists -/
theorem xl_nth {α : Type} : ∀ (l : List α) (n : Nat), xm_nth l n = l[n]?
  | [], n => by simp [xm_nth]
  | a :: l, 0 => rfl
  | a :: l, n + 1 => by
    show xm_nth l n = _
    rw [xl_nth l n]
    simp
theorem xl_put {α : Type} (x : α) : ∀ (l : List α) (n : Nat), xm_put x l n = l.set n x
  | [], n => by simp [xm_put]
  | a :: l, 0 => rfl
  | a :: l, n + 1 => by
    show a :: xm_put x l n = _
    rw [xl_put x l n]
    simp
theorem xl_len {α : Type} : ∀ (l : List α), xm_len l = l.length
  | [] => rfl
  | a :: l => by
    show Nat.succ (xm_len l) = _
    rw [xl_len l]
    simp
theorem xl_rep {α : Type} (x : α) : ∀ (n : Nat), xm_rep x n = List.replicate n x
  | 0 => rfl
  | n + 1 => by
    show x :: xm_rep x n = _
    rw [xl_rep x n]
    rfl
theorem xl_drop {α : Type} : ∀ (n : Nat) (l : List α), xm_drop n l = l.drop n
  | 0, l => rfl
  | n + 1, [] => by simp [xm_drop]
  | n + 1, a :: l => by
    show xm_drop n l = _
    rw [xl_drop n l]
    rfl
theorem xl_ext {α : Type} (d x : α) : ∀ (n i : Nat), xm_nth (xm_ext d x n) i = if i = n then some x else if i < n then some d else none
  | 0, 0 => rfl
  | 0, i + 1 => by
    show (none : Option α) = _
    simp
  | n + 1, 0 => by
    show some d = _
    simp
  | n + 1, i + 1 => by
    show xm_nth (xm_ext d x n) i = _
    rw [xl_ext d x n i]
    simp
theorem xl_putx {α : Type} (d x : α) : ∀ (l : List α) (n i : Nat), (i = n → xm_nth (xm_putx d x l n) i = some x) ∧ (i ≠ n → xm_nth (xm_putx d x l n) i = xm_nth l i ∨ (xm_nth (xm_putx d x l n) i = some d ∧ xm_nth l i = none))
  | [], n, i => by
    have h : xm_nth (xm_putx d x [] n) i = if i = n then some x else if i < n then some d else none := xl_ext d x n i
    refine ⟨fun e => by rw [h, if_pos e], fun e => ?_⟩
    rw [h, if_neg e]
    by_cases hi : i < n
    · rw [if_pos hi]
      exact Or.inr ⟨rfl, rfl⟩
    · rw [if_neg hi]
      exact Or.inl rfl
  | a :: l, 0, 0 => ⟨fun _ => rfl, fun e => absurd rfl e⟩
  | a :: l, 0, i + 1 => ⟨fun e => by omega, fun _ => Or.inl rfl⟩
  | a :: l, n + 1, 0 => ⟨fun e => by omega, fun _ => Or.inl rfl⟩
  | a :: l, n + 1, i + 1 => by
    have h := xl_putx d x l n i
    exact ⟨fun e => h.1 (by omega), fun e => h.2 (by omega)⟩
theorem xl_ck (G : xm_G) (j : Nat) (o : xm_O) (i : Nat) : xm_ck (xm_gput G j o) (i / 16) = if i / 16 = j / 16 then xm_putx none (some o) (xm_ck G (j / 16)) (j % 16) else xm_ck G (i / 16) := by
  have h := xl_putx [] (xm_putx none (some o) (xm_ck G (Nat.div j 16)) (Nat.mod j 16)) G (Nat.div j 16) (i / 16)
  by_cases e : i / 16 = j / 16
  · rw [if_pos e]
    have h1 := h.1 e
    unfold xm_ck xm_gput
    rw [h1]
    rfl
  · rw [if_neg e]
    rcases h.2 e with h1 | ⟨h1, h2⟩
    · unfold xm_ck xm_gput
      rw [h1]
    · unfold xm_ck xm_gput
      rw [h1, h2]
theorem xl_gput (n m : Nat) (G : xm_G) (j : Nat) (o : xm_O) (i : Nat) : xm_hget (n, xm_gput G j o) i = if i = j then some o else xm_hget (m, G) i := by
  show xm_jn (xm_nth (xm_ck (xm_gput G j o) (i / 16)) (i % 16)) = _
  rw [xl_ck]
  by_cases e : i / 16 = j / 16
  · rw [if_pos e]
    have h := xl_putx none (some o) (xm_ck G (j / 16)) (j % 16) (i % 16)
    by_cases e2 : i % 16 = j % 16
    · have e3 : i = j := by omega
      rw [if_pos e3, h.1 e2]
      rfl
    · have e3 : ¬ i = j := fun q => e2 (by rw [q])
      rw [if_neg e3]
      show _ = xm_jn (xm_nth (xm_ck G (i / 16)) (i % 16))
      rw [e]
      rcases h.2 e2 with h1 | ⟨h1, h2⟩
      · rw [h1]
      · rw [h1, h2]
        rfl
  · rw [if_neg e, if_neg (fun q => e (by rw [q]))]
    rfl
theorem xl_hput (G : xm_H) (j : Nat) (o : xm_O) (i : Nat) : xm_hget (xm_hput G j o) i = if i = j then some o else xm_hget G i := xl_gput G.1 G.1 G.2 j o i
theorem xl_push (G : xm_H) (o : xm_O) (i : Nat) : xm_hget (xm_push G o) i = if i = G.1 then some o else xm_hget G i := xl_gput _ G.1 G.2 G.1 o i
theorem xl_get : ∀ (l : xm_L) (i : Nat) (w : Value), xm_get l i = some w → (i, w) ∈ l
  | [], i, w, h => by simp [xm_get] at h
  | q :: l, i, w, h => by
    have h1 : cond (Nat.beq q.1 i) (some q.2) (xm_get l i) = some w := h
    cases hb : Nat.beq q.1 i with
    | true =>
      rw [hb] at h1
      have e := Nat.eq_of_beq_eq_true hb
      cases h1
      subst e
      exact List.mem_cons_self
    | false =>
      rw [hb] at h1
      exact List.mem_cons_of_mem _ (xl_get l i w h1)
theorem xl_frc (x : Int32) (k : Int32 → Bool) : xm_frc x k = k x := by
  have h : ∀ n : Nat, x.toBitVec.toNat = n → Int32.ofNat n = x := by
    intro n hn
    subst hn
    apply Int32.toBitVec_inj.mp
    simp
  unfold xm_frc
  cases hn : x.toBitVec.toNat with
  | zero =>
    show k (Int32.ofNat 0) = k x
    rw [h 0 hn]
  | succ n =>
    show k (Int32.ofNat (n + 1)) = k x
    rw [h (n + 1) hn]
theorem xl_all {lo : Int} {k : Int → Bool} : ∀ {n : Nat}, xm_all lo n k = true → ∀ c : Int, lo ≤ c → c < lo + n → k c = true
  | 0, _, c, h1, h2 => by omega
  | n + 1, h, c, h1, h2 => by
    have h3 : (k (lo + Int.ofNat n) && xm_all lo n k) = true := h
    rw [Bool.and_eq_true] at h3
    by_cases e : c = lo + n
    · subst e
      exact h3.1
    · exact xl_all h3.2 c h1 (by omega)
end
section
/-! words -/
def xm_tb : List Jvm.Cond := lw_tbl.filter goodWord
def xm_nest : List Jvm.Cond := [.methodLinkNest "StairNews" 11 ⟨"StairNews$Tape", "<init>", "()V"⟩ "StairNews", .methodLinkNest "StairNews" 18 ⟨"StairNews$Scene", "<init>", "()V"⟩ "StairNews", .methodLinkNest "StairNews$Scene" 11 ⟨"StairNews$House", "<init>", "()V"⟩ "StairNews", .methodLinkNest "StairNews$Scene" 20 ⟨"StairNews$Folk", "<init>", "()V"⟩ "StairNews", .methodLinkNest "StairNews" 25 ⟨"StairNews$House", "<init>", "()V"⟩ "StairNews", .methodLinkNest "StairNews$History" 23 ⟨"StairNews$Folk", "<init>", "()V"⟩ "StairNews", .methodLinkNest "StairNews$Outlook" 11 ⟨"StairNews$Folk", "<init>", "()V"⟩ "StairNews", .methodLinkNest "StairNews" 65 ⟨"StairNews$Rule", "<init>", "()V"⟩ "StairNews", .methodLinkNest "StairNews$Folk" 79 ⟨"StairNews", "bit", "(II)I"⟩ "StairNews", .methodLinkNest "StairNews$Gossip" 58 ⟨"StairNews", "bit", "(II)I"⟩ "StairNews", .methodLinkNest "StairNews$Outlook" 117 ⟨"StairNews", "bit", "(II)I"⟩ "StairNews", .methodLinkNest "StairNews$Lore" 46 ⟨"StairNews", "bit", "(II)I"⟩ "StairNews"]
end
section
/-! what the tables say of the numbers in the code lists: each word by its place in lw_tbl -/
def xm_w (i : Nat) (w : Jvm.Cond) : Bool := goodWord w && decide (lw_tbl[i]? = some w)
theorem xk_w {i : Nat} {w : Jvm.Cond} (h : xm_w i w = true) : w ∈ xm_tb := by
  unfold xm_w at h
  rw [Bool.and_eq_true, decide_eq_true_eq] at h
  exact List.mem_filter.mpr ⟨List.mem_of_getElem? h.2, h.1⟩
def xm_klok (o : Nat) (q : Nat × Value × Nat) : Bool := match q.2.1 with
  | .int z => xm_w q.2.2 (.constant (xm_own o) q.1 z)
  | .long z => xm_w q.2.2 (.constantLong (xm_own o) q.1 z)
  | .ref j => (match xm_str[j - 1]? with
    | some t => decide (t.1 = xm_own o) && (Nat.beq t.2.1 q.1 && (Nat.ble 1 j && Nat.blt j 7))
    | none => false)
  | _ => false
def xm_flok (o : Nat) (q : Nat × Nat × Nat × Nat) : Bool := match xm_cls[q.2.1]? with
  | some r => Nat.blt q.2.2.1 r.2.2 && (decide ((r.2.1 q.2.2.1).1 = r.1) && xm_w q.2.2.2 (.fieldLink (xm_own o) q.1 r.1 (r.2.1 q.2.2.1).2.1 (r.2.1 q.2.2.1).2.2.1))
  | none => false
def xm_mlok (o : Nat) (q : Nat × Nat × Nat × Nat) : Bool :=
  bif Nat.beq q.2.1 1000 then xm_w q.2.2.2 (.methodLink (xm_own o) q.1 objectInit)
  else bif Nat.beq q.2.1 1001 then xm_w q.2.2.2 (.methodLink (xm_own o) q.1 arraycopyName)
  else bif Nat.beq q.2.1 1002 then true
  else (match xm_mtab[q.2.1]?, xm_mf[q.2.1]? with
    | some r, some f => (match q.2.2.1 with
      | 0 => xm_w q.2.2.2 (.methodLink (xm_own o) q.1 r.2.1) && Nat.beq f.1 2
      | 1 => xm_w q.2.2.2 (.methodLink (xm_own o) q.1 r.2.1) && Nat.beq f.1 0
      | 2 => xm_w q.2.2.2 (.methodLink (xm_own o) q.1 r.2.1) && Nat.beq f.1 1
      | 3 => decide (.methodLinkNest (xm_own o) q.1 r.2.1 "StairNews" ∈ xm_nest) && Nat.beq f.1 0
      | 4 => decide (.methodLinkNest (xm_own o) q.1 r.2.1 "StairNews" ∈ xm_nest) && Nat.beq f.1 1
      | _ => false)
    | _, _ => false)
def xm_clok (o : Nat) (q : Nat × Nat × Nat) : Bool := match xm_cls[q.2.1]? with
  | some r => xm_w q.2.2 (.classLink (xm_own o) q.1 r.1)
  | none => false
def xm_pl (v : Value) : Bool := match v with
  | .int _ => true
  | .long _ => true
  | .null => true
  | _ => false
/-- a class's own table -/
def xm_tok (a : Nat) : Bool := match xm_cls[a]?, xm_ci[a]? with
  | some r, some f => xm_w f.1 (.instantiable r.1 r.2.2) && (xm_w f.2.1 (.initialized r.1) && ((List.range r.2.2).all (fun k => xm_w (f.2.2.getD k 0) (u_lay r.1 r.2.1 k)) && ((List.range r.2.2).all (fun k => decide (parseFieldDescriptor (r.2.1 k).2.2.1 = some (xm_ty a k)) && (decide ((xm_def a)[k]? = some (defaultValue (xm_ty a k))) && (List.range r.2.2).all (fun j => Nat.beq k j || !decide ((r.2.1 k).2.1 = (r.2.1 j).2.1)))) && (Nat.beq (xm_def a).length r.2.2 && (xm_def a).all xm_pl))))
  | _, _ => false
/-- a method's own words -/
def xm_mok (r : xm_M) (f : Nat × Nat × Nat × Nat × Nat) : Bool := xm_w f.2.1 (.initialized r.2.1.cls) && ((match f.1 with
    | 0 => xm_w f.2.2.1 (.static r.2.1)
    | 1 => xm_w f.2.2.1 (.instanceMethod r.2.1) && (decide (r.2.1.name = "<init>") && r.2.2.2.2.1.isNone)
    | 2 => xm_w f.2.2.1 (.instanceMethod r.2.1) && xm_w f.2.2.2.1 (.selects r.2.1.cls r.2.1 r.2.1)
    | _ => false) && (plainName r.2.1.cls && (!decide (r.2.1.cls = "java/lang/invoke/MethodHandle") && (!decide (r.2.1.cls = "java/lang/invoke/VarHandle") && (decide ((parseMethodDescriptor r.2.1.desc).map (fun d => d.parameters.length) = some r.2.2.2.2.2.1) && (xm_w f.2.2.2.2 (.code r.2.1 r.2.2.1 r.2.2.2.1 r.2.2.2.2.1) && Nat.ble r.2.2.2.1 40))))))
def xm_mokN (a : Nat) : Bool := match xm_mtab[a]?, xm_mf[a]? with
  | some r, some f => xm_mok r f
  | _, _ => false
theorem xk_kl0 : (xm_kl 0).all (xm_klok 0) = true := by decide +kernel
theorem xk_fl0 : (xm_fl 0).all (xm_flok 0) = true := by decide +kernel
theorem xk_cl0 : (xm_cl 0).all (xm_clok 0) = true := by decide +kernel
theorem xk_ml0 : (xm_ml 0).all (xm_mlok 0) = true := by decide +kernel
theorem xk_kl1 : (xm_kl 1).all (xm_klok 1) = true := by decide +kernel
theorem xk_fl1 : (xm_fl 1).all (xm_flok 1) = true := by decide +kernel
theorem xk_cl1 : (xm_cl 1).all (xm_clok 1) = true := by decide +kernel
theorem xk_ml1 : (xm_ml 1).all (xm_mlok 1) = true := by decide +kernel
theorem xk_kl2 : (xm_kl 2).all (xm_klok 2) = true := by decide +kernel
theorem xk_fl2 : (xm_fl 2).all (xm_flok 2) = true := by decide +kernel
theorem xk_cl2 : (xm_cl 2).all (xm_clok 2) = true := by decide +kernel
theorem xk_ml2 : (xm_ml 2).all (xm_mlok 2) = true := by decide +kernel
theorem xk_kl3 : (xm_kl 3).all (xm_klok 3) = true := by decide +kernel
theorem xk_fl3 : (xm_fl 3).all (xm_flok 3) = true := by decide +kernel
theorem xk_cl3 : (xm_cl 3).all (xm_clok 3) = true := by decide +kernel
theorem xk_ml3 : (xm_ml 3).all (xm_mlok 3) = true := by decide +kernel
theorem xk_kl4 : (xm_kl 4).all (xm_klok 4) = true := by decide +kernel
theorem xk_fl4 : (xm_fl 4).all (xm_flok 4) = true := by decide +kernel
theorem xk_cl4 : (xm_cl 4).all (xm_clok 4) = true := by decide +kernel
theorem xk_ml4 : (xm_ml 4).all (xm_mlok 4) = true := by decide +kernel
theorem xk_kl5 : (xm_kl 5).all (xm_klok 5) = true := by decide +kernel
theorem xk_fl5 : (xm_fl 5).all (xm_flok 5) = true := by decide +kernel
theorem xk_cl5 : (xm_cl 5).all (xm_clok 5) = true := by decide +kernel
theorem xk_ml5 : (xm_ml 5).all (xm_mlok 5) = true := by decide +kernel
theorem xk_kl6 : (xm_kl 6).all (xm_klok 6) = true := by decide +kernel
theorem xk_fl6 : (xm_fl 6).all (xm_flok 6) = true := by decide +kernel
theorem xk_cl6 : (xm_cl 6).all (xm_clok 6) = true := by decide +kernel
theorem xk_ml6 : (xm_ml 6).all (xm_mlok 6) = true := by decide +kernel
theorem xk_kl7 : (xm_kl 7).all (xm_klok 7) = true := by decide +kernel
theorem xk_fl7 : (xm_fl 7).all (xm_flok 7) = true := by decide +kernel
theorem xk_cl7 : (xm_cl 7).all (xm_clok 7) = true := by decide +kernel
theorem xk_ml7 : (xm_ml 7).all (xm_mlok 7) = true := by decide +kernel
theorem xk_kl8 : (xm_kl 8).all (xm_klok 8) = true := by decide +kernel
theorem xk_fl8 : (xm_fl 8).all (xm_flok 8) = true := by decide +kernel
theorem xk_cl8 : (xm_cl 8).all (xm_clok 8) = true := by decide +kernel
theorem xk_ml8 : (xm_ml 8).all (xm_mlok 8) = true := by decide +kernel
theorem xk_kl9 : (xm_kl 9).all (xm_klok 9) = true := by decide +kernel
theorem xk_fl9 : (xm_fl 9).all (xm_flok 9) = true := by decide +kernel
theorem xk_cl9 : (xm_cl 9).all (xm_clok 9) = true := by decide +kernel
theorem xk_ml9 : (xm_ml 9).all (xm_mlok 9) = true := by decide +kernel
theorem xk_kl10 : (xm_kl 10).all (xm_klok 10) = true := by decide +kernel
theorem xk_fl10 : (xm_fl 10).all (xm_flok 10) = true := by decide +kernel
theorem xk_cl10 : (xm_cl 10).all (xm_clok 10) = true := by decide +kernel
theorem xk_ml10 : (xm_ml 10).all (xm_mlok 10) = true := by decide +kernel
theorem xk_kl11 : (xm_kl 11).all (xm_klok 11) = true := by decide +kernel
theorem xk_fl11 : (xm_fl 11).all (xm_flok 11) = true := by decide +kernel
theorem xk_cl11 : (xm_cl 11).all (xm_clok 11) = true := by decide +kernel
theorem xk_ml11 : (xm_ml 11).all (xm_mlok 11) = true := by decide +kernel
theorem xk_kl12 : (xm_kl 12).all (xm_klok 12) = true := by decide +kernel
theorem xk_fl12 : (xm_fl 12).all (xm_flok 12) = true := by decide +kernel
theorem xk_cl12 : (xm_cl 12).all (xm_clok 12) = true := by decide +kernel
theorem xk_ml12 : (xm_ml 12).all (xm_mlok 12) = true := by decide +kernel
theorem xk_kl13 : (xm_kl 13).all (xm_klok 13) = true := by decide +kernel
theorem xk_fl13 : (xm_fl 13).all (xm_flok 13) = true := by decide +kernel
theorem xk_cl13 : (xm_cl 13).all (xm_clok 13) = true := by decide +kernel
theorem xk_ml13 : (xm_ml 13).all (xm_mlok 13) = true := by decide +kernel
theorem xk_kl14 : (xm_kl 14).all (xm_klok 14) = true := by decide +kernel
theorem xk_fl14 : (xm_fl 14).all (xm_flok 14) = true := by decide +kernel
theorem xk_cl14 : (xm_cl 14).all (xm_clok 14) = true := by decide +kernel
theorem xk_ml14 : (xm_ml 14).all (xm_mlok 14) = true := by decide +kernel
theorem xk_kl15 : (xm_kl 15).all (xm_klok 15) = true := by decide +kernel
theorem xk_fl15 : (xm_fl 15).all (xm_flok 15) = true := by decide +kernel
theorem xk_cl15 : (xm_cl 15).all (xm_clok 15) = true := by decide +kernel
theorem xk_ml15 : (xm_ml 15).all (xm_mlok 15) = true := by decide +kernel
theorem xk_kl16 : (xm_kl 16).all (xm_klok 16) = true := by decide +kernel
theorem xk_fl16 : (xm_fl 16).all (xm_flok 16) = true := by decide +kernel
theorem xk_cl16 : (xm_cl 16).all (xm_clok 16) = true := by decide +kernel
theorem xk_ml16 : (xm_ml 16).all (xm_mlok 16) = true := by decide +kernel
theorem xk_t0 : xm_tok 0 = true := by decide +kernel
theorem xk_t1 : xm_tok 1 = true := by decide +kernel
theorem xk_t2 : xm_tok 2 = true := by decide +kernel
theorem xk_t3 : xm_tok 3 = true := by decide +kernel
theorem xk_t4 : xm_tok 4 = true := by decide +kernel
theorem xk_t5 : xm_tok 5 = true := by decide +kernel
theorem xk_t6 : xm_tok 6 = true := by decide +kernel
theorem xk_t7 : xm_tok 7 = true := by decide +kernel
theorem xk_t8 : xm_tok 8 = true := by decide +kernel
theorem xk_t9 : xm_tok 9 = true := by decide +kernel
theorem xk_t10 : xm_tok 10 = true := by decide +kernel
theorem xk_t11 : xm_tok 11 = true := by decide +kernel
theorem xk_kl : ∀ o, o < 17 → (xm_kl o).all (xm_klok o) = true
  | 0, _ => xk_kl0
  | 1, _ => xk_kl1
  | 2, _ => xk_kl2
  | 3, _ => xk_kl3
  | 4, _ => xk_kl4
  | 5, _ => xk_kl5
  | 6, _ => xk_kl6
  | 7, _ => xk_kl7
  | 8, _ => xk_kl8
  | 9, _ => xk_kl9
  | 10, _ => xk_kl10
  | 11, _ => xk_kl11
  | 12, _ => xk_kl12
  | 13, _ => xk_kl13
  | 14, _ => xk_kl14
  | 15, _ => xk_kl15
  | 16, _ => xk_kl16
  | n + 17, h => by omega
theorem xk_fl : ∀ o, o < 17 → (xm_fl o).all (xm_flok o) = true
  | 0, _ => xk_fl0
  | 1, _ => xk_fl1
  | 2, _ => xk_fl2
  | 3, _ => xk_fl3
  | 4, _ => xk_fl4
  | 5, _ => xk_fl5
  | 6, _ => xk_fl6
  | 7, _ => xk_fl7
  | 8, _ => xk_fl8
  | 9, _ => xk_fl9
  | 10, _ => xk_fl10
  | 11, _ => xk_fl11
  | 12, _ => xk_fl12
  | 13, _ => xk_fl13
  | 14, _ => xk_fl14
  | 15, _ => xk_fl15
  | 16, _ => xk_fl16
  | n + 17, h => by omega
theorem xk_cl : ∀ o, o < 17 → (xm_cl o).all (xm_clok o) = true
  | 0, _ => xk_cl0
  | 1, _ => xk_cl1
  | 2, _ => xk_cl2
  | 3, _ => xk_cl3
  | 4, _ => xk_cl4
  | 5, _ => xk_cl5
  | 6, _ => xk_cl6
  | 7, _ => xk_cl7
  | 8, _ => xk_cl8
  | 9, _ => xk_cl9
  | 10, _ => xk_cl10
  | 11, _ => xk_cl11
  | 12, _ => xk_cl12
  | 13, _ => xk_cl13
  | 14, _ => xk_cl14
  | 15, _ => xk_cl15
  | 16, _ => xk_cl16
  | n + 17, h => by omega
theorem xk_ml : ∀ o, o < 17 → (xm_ml o).all (xm_mlok o) = true
  | 0, _ => xk_ml0
  | 1, _ => xk_ml1
  | 2, _ => xk_ml2
  | 3, _ => xk_ml3
  | 4, _ => xk_ml4
  | 5, _ => xk_ml5
  | 6, _ => xk_ml6
  | 7, _ => xk_ml7
  | 8, _ => xk_ml8
  | 9, _ => xk_ml9
  | 10, _ => xk_ml10
  | 11, _ => xk_ml11
  | 12, _ => xk_ml12
  | 13, _ => xk_ml13
  | 14, _ => xk_ml14
  | 15, _ => xk_ml15
  | 16, _ => xk_ml16
  | n + 17, h => by omega
theorem xk_t : ∀ a, a < 12 → xm_tok a = true
  | 0, _ => xk_t0
  | 1, _ => xk_t1
  | 2, _ => xk_t2
  | 3, _ => xk_t3
  | 4, _ => xk_t4
  | 5, _ => xk_t5
  | 6, _ => xk_t6
  | 7, _ => xk_t7
  | 8, _ => xk_t8
  | 9, _ => xk_t9
  | 10, _ => xk_t10
  | 11, _ => xk_t11
  | n + 12, h => by omega
theorem xk_mm1 : (List.range' 1 12).all xm_mokN = true := by decide +kernel
theorem xk_mm13 : (List.range' 13 12).all xm_mokN = true := by decide +kernel
theorem xk_mm25 : (List.range' 25 12).all xm_mokN = true := by decide +kernel
theorem xk_mm37 : (List.range' 37 12).all xm_mokN = true := by decide +kernel
theorem xk_mm49 : (List.range' 49 12).all xm_mokN = true := by decide +kernel
theorem xk_mm61 : (List.range' 61 12).all xm_mokN = true := by decide +kernel
theorem xk_mm73 : (List.range' 73 12).all xm_mokN = true := by decide +kernel
theorem xk_mm85 : (List.range' 85 12).all xm_mokN = true := by decide +kernel
theorem xk_mm97 : (List.range' 97 12).all xm_mokN = true := by decide +kernel
theorem xk_mm109 : (List.range' 109 12).all xm_mokN = true := by decide +kernel
theorem xk_mm121 : (List.range' 121 12).all xm_mokN = true := by decide +kernel
theorem xk_mm133 : (List.range' 133 12).all xm_mokN = true := by decide +kernel
theorem xk_mm145 : (List.range' 145 12).all xm_mokN = true := by decide +kernel
theorem xk_mm157 : (List.range' 157 12).all xm_mokN = true := by decide +kernel
theorem xk_mm169 : (List.range' 169 12).all xm_mokN = true := by decide +kernel
theorem xk_mm181 : (List.range' 181 12).all xm_mokN = true := by decide +kernel
theorem xk_mm193 : (List.range' 193 12).all xm_mokN = true := by decide +kernel
theorem xk_mm205 : (List.range' 205 12).all xm_mokN = true := by decide +kernel
theorem xk_mm217 : (List.range' 217 12).all xm_mokN = true := by decide +kernel
theorem xk_mm229 : (List.range' 229 12).all xm_mokN = true := by decide +kernel
theorem xk_mall {a : Nat} (h1 : 1 ≤ a) (h2 : a < 241) : xm_mokN a = true := by
  by_cases c1 : a < 13
  · exact List.all_eq_true.mp xk_mm1 a (List.mem_range'_1.mpr ⟨by omega, by omega⟩)
  by_cases c13 : a < 25
  · exact List.all_eq_true.mp xk_mm13 a (List.mem_range'_1.mpr ⟨by omega, by omega⟩)
  by_cases c25 : a < 37
  · exact List.all_eq_true.mp xk_mm25 a (List.mem_range'_1.mpr ⟨by omega, by omega⟩)
  by_cases c37 : a < 49
  · exact List.all_eq_true.mp xk_mm37 a (List.mem_range'_1.mpr ⟨by omega, by omega⟩)
  by_cases c49 : a < 61
  · exact List.all_eq_true.mp xk_mm49 a (List.mem_range'_1.mpr ⟨by omega, by omega⟩)
  by_cases c61 : a < 73
  · exact List.all_eq_true.mp xk_mm61 a (List.mem_range'_1.mpr ⟨by omega, by omega⟩)
  by_cases c73 : a < 85
  · exact List.all_eq_true.mp xk_mm73 a (List.mem_range'_1.mpr ⟨by omega, by omega⟩)
  by_cases c85 : a < 97
  · exact List.all_eq_true.mp xk_mm85 a (List.mem_range'_1.mpr ⟨by omega, by omega⟩)
  by_cases c97 : a < 109
  · exact List.all_eq_true.mp xk_mm97 a (List.mem_range'_1.mpr ⟨by omega, by omega⟩)
  by_cases c109 : a < 121
  · exact List.all_eq_true.mp xk_mm109 a (List.mem_range'_1.mpr ⟨by omega, by omega⟩)
  by_cases c121 : a < 133
  · exact List.all_eq_true.mp xk_mm121 a (List.mem_range'_1.mpr ⟨by omega, by omega⟩)
  by_cases c133 : a < 145
  · exact List.all_eq_true.mp xk_mm133 a (List.mem_range'_1.mpr ⟨by omega, by omega⟩)
  by_cases c145 : a < 157
  · exact List.all_eq_true.mp xk_mm145 a (List.mem_range'_1.mpr ⟨by omega, by omega⟩)
  by_cases c157 : a < 169
  · exact List.all_eq_true.mp xk_mm157 a (List.mem_range'_1.mpr ⟨by omega, by omega⟩)
  by_cases c169 : a < 181
  · exact List.all_eq_true.mp xk_mm169 a (List.mem_range'_1.mpr ⟨by omega, by omega⟩)
  by_cases c181 : a < 193
  · exact List.all_eq_true.mp xk_mm181 a (List.mem_range'_1.mpr ⟨by omega, by omega⟩)
  by_cases c193 : a < 205
  · exact List.all_eq_true.mp xk_mm193 a (List.mem_range'_1.mpr ⟨by omega, by omega⟩)
  by_cases c205 : a < 217
  · exact List.all_eq_true.mp xk_mm205 a (List.mem_range'_1.mpr ⟨by omega, by omega⟩)
  by_cases c217 : a < 229
  · exact List.all_eq_true.mp xk_mm217 a (List.mem_range'_1.mpr ⟨by omega, by omega⟩)
  by_cases c229 : a < 241
  · exact List.all_eq_true.mp xk_mm229 a (List.mem_range'_1.mpr ⟨by omega, by omega⟩)
  omega
theorem xk_a0 : xm_w 258 (.arrayClass .int) = true := by decide +kernel
theorem xk_a1 : xm_w 151 (.arrayClass .byte) = true := by decide +kernel
theorem xk_a2 : xm_w 451 (.arrayClass .long) = true := by decide +kernel
theorem xk_a3 : xm_w 1217 (.arrayClass .boolean) = true := by decide +kernel
theorem xk_a8 : xm_w 119 (.instanceMethod objectInit) = true := by decide +kernel
theorem xk_a9 : xm_w 688 (.native arraycopyName) = true := by decide +kernel
theorem xk_a10 : xm_w 687 (.static arraycopyName) = true := by decide +kernel
theorem xk_a11 : xm_w 110 (.initialized "java/lang/System") = true := by decide +kernel
theorem xk_oc : Jvm.Cond.code objectInit ⟨#[0xb1]⟩ 1 none ∈ xm_tb := List.mem_filter.mpr ⟨List.mem_of_getElem? (i := 120) rfl, rfl⟩
end
section
/-! is a code list what the bytes say, and do its numbers mean what the tables say -/
noncomputable def xm_nx (rest : List xm_E) (pc : Nat) : Bool := match rest with
  | e :: _ => Nat.beq e.1 pc
  | [] => false
noncomputable def xm_tg (full : List xm_E) (a pc : Nat) (off : Int) : Bool := match xm_drop a full with
  | e :: _ => decide ((pc : Int) + off = (e.1 : Int))
  | [] => false
noncomputable def xm_tgs (full : List xm_E) (pc : Nat) (offs : List Int) : List Nat → Bool :=
  List.rec (motive := fun _ => List Nat → Bool) (fun ts => match ts with
    | [] => true
    | _ => false) (fun o _ ih ts => match ts with
    | t :: ts => xm_tg full t pc o && ih ts
    | [] => false) offs
def xm_dc (cc : ByteArray) (e : xm_E) (n : Nat) : Bool := decide (decode cc e.1 = .ok (e.2.1, n))
def xm_dw (cc : ByteArray) (e : xm_E) : Bool := match decode cc e.1 with
  | .ok (i, _) => decide (i = e.2.1)
  | .error _ => false
/-- a straight instruction of n bytes -/
noncomputable def xm_s (cc : ByteArray) (e : xm_E) (rest : List xm_E) (n : Nat) : Bool := xm_dc cc e n && xm_nx rest (e.1 + n)
def xm_at3 (l : List (Nat × Nat × Nat × Nat)) (q : Nat × Nat × Nat) : Bool := l.any (fun r => Nat.beq r.1 q.1 && (Nat.beq r.2.1 q.2.1 && Nat.beq r.2.2.1 q.2.2))
def xm_at2 (l : List (Nat × Nat × Nat)) (q : Nat × Nat) : Bool := l.any (fun r => Nat.beq r.1 q.1 && Nat.beq r.2.1 q.2)
def xm_atk (l : List (Nat × Value × Nat)) (i : Nat) (v : Value) : Bool := l.any (fun r => Nat.beq r.1 i && decide (r.2.1 = v))
def xm_fin (a b : Nat) : Bool := match xm_cls[a]? with
  | some r => (r.2.1 b).2.2.2
  | none => true
def xm_mine (a o : Nat) : Bool := match xm_cls[a]? with
  | some r => decide (r.1 = xm_own o)
  | none => false
def xm_atyp (t : ArrayType) : Nat := match t with
  | .int => 100
  | .byte => 101
  | .long => 102
  | .boolean => 103
  | _ => 0
def xm_ki (v : Value) : Bool := match v with
  | .int _ => true
  | .ref _ => true
  | _ => false
def xm_kii (v : Value) : Bool := match v with
  | .int _ => true
  | _ => false
def xm_kll (v : Value) : Bool := match v with
  | .long _ => true
  | _ => false
noncomputable def xm_okE (o : Nat) (ini : Bool) (cc : ByteArray) (full rest : List xm_E) (e : xm_E) : Bool := match e.2.1 with
  | .iconst n => xm_s cc e rest 1 && decide (e.2.2.2.2.2 = .int (Int32.ofInt n))
  | .bipush n => xm_s cc e rest 2 && decide (e.2.2.2.2.2 = .int (Int8.ofInt n).toInt32)
  | .sipush n => xm_s cc e rest 3 && decide (e.2.2.2.2.2 = .int (Int16.ofInt n).toInt32)
  | .lconst n => xm_s cc e rest 1 && decide (e.2.2.2.2.2 = .long (Int64.ofNat (n : Nat)))
  | .aconst_null => xm_s cc e rest 1 && decide (e.2.2.2.2.2 = .null)
  | .ldc i => xm_s cc e rest 2 && (xm_atk (xm_kl o) i e.2.2.2.2.2 && xm_ki e.2.2.2.2.2)
  | .ldc_w i => xm_s cc e rest 3 && (xm_atk (xm_kl o) i e.2.2.2.2.2 && xm_kii e.2.2.2.2.2)
  | .ldc2_w i => xm_s cc e rest 3 && (xm_atk (xm_kl o) i e.2.2.2.2.2 && xm_kll e.2.2.2.2.2)
  | .iload i => xm_s cc e rest 2 && Nat.beq e.2.2.1 i
  | .lload i => xm_s cc e rest 2 && Nat.beq e.2.2.1 i
  | .aload i => xm_s cc e rest 2 && Nat.beq e.2.2.1 i
  | .istore i => xm_s cc e rest 2 && Nat.beq e.2.2.1 i
  | .lstore i => xm_s cc e rest 2 && Nat.beq e.2.2.1 i
  | .astore i => xm_s cc e rest 2 && Nat.beq e.2.2.1 i
  | .iload_n i => xm_s cc e rest 1 && Nat.beq e.2.2.1 (i : Nat)
  | .lload_n i => xm_s cc e rest 1 && Nat.beq e.2.2.1 (i : Nat)
  | .aload_n i => xm_s cc e rest 1 && Nat.beq e.2.2.1 (i : Nat)
  | .istore_n i => xm_s cc e rest 1 && Nat.beq e.2.2.1 (i : Nat)
  | .lstore_n i => xm_s cc e rest 1 && Nat.beq e.2.2.1 (i : Nat)
  | .astore_n i => xm_s cc e rest 1 && Nat.beq e.2.2.1 (i : Nat)
  | .iinc i _ => xm_s cc e rest 3 && Nat.beq e.2.2.1 i
  | .iadd | .isub | .imul | .iand | .ior | .ixor | .ishl | .ishr | .iushr | .idiv | .irem | .ineg | .i2b | .i2l | .l2i => xm_s cc e rest 1
  | .ladd | .lsub | .lmul | .land | .lor | .ldiv | .lrem | .lshl | .lshr | .lcmp | .dup | .pop | .dup2 => xm_s cc e rest 1
  | .iaload | .baload | .laload | .aaload | .iastore | .bastore | .lastore | .aastore | .arraylength => xm_s cc e rest 1
  | .goto off => xm_dc cc e 3 && xm_tg full e.2.2.1 e.1 off
  | .ifCond _ off => xm_s cc e rest 3 && xm_tg full e.2.2.1 e.1 off
  | .if_icmp _ off => xm_s cc e rest 3 && xm_tg full e.2.2.1 e.1 off
  | .ifnull off => xm_s cc e rest 3 && xm_tg full e.2.2.1 e.1 off
  | .ifnonnull off => xm_s cc e rest 3 && xm_tg full e.2.2.1 e.1 off
  | .tableswitch d lo hi offs => xm_dw cc e && (xm_tg full e.2.2.1 e.1 d && (xm_tgs full e.1 offs.toList e.2.2.2.2.1 && decide (hi + 1 = lo + Int.ofNat (xm_len e.2.2.2.2.1))))
  | .lookupswitch d ps => xm_dw cc e && (xm_tg full e.2.2.1 e.1 d && (xm_tgs full e.1 (ps.toList.map (fun q => q.2)) e.2.2.2.2.1 && (ps.toList.zip (ps.toList.drop 1)).all (fun (a, next) => a.1 < next.1)))
  | .newarray t => xm_s cc e rest 2 && (Nat.beq e.2.2.1 (xm_atyp t) && Nat.ble 100 e.2.2.1)
  | .anewarray i => xm_s cc e rest 3 && (match xm_ofA e.2.2.1 with
    | some c => xm_at2 (xm_cl o) (i, c)
    | none => false)
  | .new i => xm_s cc e rest 3 && xm_at2 (xm_cl o) (i, e.2.2.1)
  | .getfield i => xm_s cc e rest 3 && xm_at3 (xm_fl o) (i, e.2.2.1, e.2.2.2.1)
  | .putfield i => xm_s cc e rest 3 && (xm_at3 (xm_fl o) (i, e.2.2.1, e.2.2.2.1) && (!(xm_fin e.2.2.1 e.2.2.2.1) || (ini && xm_mine e.2.2.1 o)))
  | .invokevirtual i => xm_s cc e rest 3 && xm_at3 (xm_ml o) (i, e.2.2.1, 0)
  | .invokestatic i => xm_s cc e rest 3 && (bif Nat.beq e.2.2.1 1001 then xm_at3 (xm_ml o) (i, 1001, 0) else bif Nat.beq e.2.2.1 1002 then true else bif Nat.beq e.2.2.2.1 3 then xm_at3 (xm_ml o) (i, e.2.2.1, 3) else xm_at3 (xm_ml o) (i, e.2.2.1, 1))
  | .invokespecial i => xm_s cc e rest 3 && (bif Nat.beq e.2.2.1 1000 then xm_at3 (xm_ml o) (i, 1000, 0) else bif Nat.beq e.2.2.2.1 4 then xm_at3 (xm_ml o) (i, e.2.2.1, 4) else xm_at3 (xm_ml o) (i, e.2.2.1, 2))
  | .ireturn | .lreturn | .areturn | .return_ => xm_dc cc e 1
  | _ => true
noncomputable def xm_okC (o : Nat) (ini : Bool) (cc : ByteArray) (full : List xm_E) (suf : List xm_E) : Bool :=
  List.rec (motive := fun _ => Bool) true (fun e rest ih => xm_okE o ini cc full rest e && ih) suf
noncomputable def xm_okM (r : xm_M) : Bool := Nat.blt r.1 17 && (decide (r.2.1.cls = xm_own r.1) && xm_okC r.1 (decide (r.2.1.name = "<init>")) r.2.2.1 r.2.2.2.2.2.2.2.2 r.2.2.2.2.2.2.2.2)
noncomputable def xm_okR (o : Nat) (ini : Bool) (cc : ByteArray) (full : List xm_E) (n : Nat) : List xm_E → Bool :=
  Nat.rec (motive := fun _ => List xm_E → Bool) (fun _ => true) (fun _ ih suf => List.rec (motive := fun _ => Bool) true (fun e rest _ => xm_okE o ini cc full rest e && ih rest) suf) n
theorem xl_okR {o : Nat} {ini : Bool} {cc : ByteArray} {full : List xm_E} : ∀ (n : Nat) (suf : List xm_E), xm_okR o ini cc full n suf = true → xm_okC o ini cc full (xm_drop n suf) = true → xm_okC o ini cc full suf = true
  | 0, suf, _, h => h
  | n + 1, [], _, h => h
  | n + 1, e :: suf, h1, h2 => by
    have h3 : (xm_okE o ini cc full suf e && xm_okR o ini cc full n suf) = true := h1
    have h4 : xm_okC o ini cc full (xm_drop n suf) = true := h2
    rw [Bool.and_eq_true] at h3
    show (xm_okE o ini cc full suf e && xm_okC o ini cc full suf) = true
    rw [h3.1, xl_okR n suf h3.2 h4]
    rfl
theorem xl_dropdrop {α : Type} (a b : Nat) (l : List α) : xm_drop a (xm_drop b l) = xm_drop (b + a) l := by
  rw [xl_drop, xl_drop, xl_drop, List.drop_drop]
/-- a piece of a method's check -/
noncomputable def xm_okP (r : xm_M) (n k : Nat) : Bool := xm_okR r.1 (decide (r.2.1.name = "<init>")) r.2.2.1 r.2.2.2.2.2.2.2.2 n (xm_drop k r.2.2.2.2.2.2.2.2)
theorem xl_okP {r : xm_M} (n k : Nat) (h1 : xm_okP r n k = true) (h2 : xm_okC r.1 (decide (r.2.1.name = "<init>")) r.2.2.1 r.2.2.2.2.2.2.2.2 (xm_drop (k + n) r.2.2.2.2.2.2.2.2) = true) : xm_okC r.1 (decide (r.2.1.name = "<init>")) r.2.2.1 r.2.2.2.2.2.2.2.2 (xm_drop k r.2.2.2.2.2.2.2.2) = true := by
  refine xl_okR n _ h1 ?_
  rw [xl_dropdrop]
  exact h2
theorem xl_okM {r : xm_M} (h1 : Nat.blt r.1 17 = true) (h2 : decide (r.2.1.cls = xm_own r.1) = true) (h3 : xm_okC r.1 (decide (r.2.1.name = "<init>")) r.2.2.1 r.2.2.2.2.2.2.2.2 (xm_drop 0 r.2.2.2.2.2.2.2.2) = true) : xm_okM r = true := by
  have h3 : xm_okC r.1 (decide (r.2.1.name = "<init>")) r.2.2.1 r.2.2.2.2.2.2.2.2 r.2.2.2.2.2.2.2.2 = true := h3
  unfold xm_okM
  rw [h1, h2, h3]
  rfl
end
section
theorem xk_p0_0 : xm_okP xm_m0 40 0 = true := by decide +kernel
theorem xk_p0_40 : xm_okP xm_m0 40 40 = true := by decide +kernel
theorem xk_p0_80 : xm_okP xm_m0 40 80 = true := by decide +kernel
theorem xk_p0_120 : xm_okP xm_m0 40 120 = true := by decide +kernel
theorem xk_p0_160 : xm_okP xm_m0 40 160 = true := by decide +kernel
theorem xk_p0_200 : xm_okP xm_m0 40 200 = true := by decide +kernel
theorem xk_p0_240 : xm_okP xm_m0 40 240 = true := by decide +kernel
theorem xk_p0_280 : xm_okP xm_m0 40 280 = true := by decide +kernel
theorem xk_p0_320 : xm_okP xm_m0 40 320 = true := by decide +kernel
theorem xk_p0_360 : xm_okP xm_m0 40 360 = true := by decide +kernel
theorem xk_p0_400 : xm_okP xm_m0 40 400 = true := by decide +kernel
theorem xk_p0_440 : xm_okP xm_m0 40 440 = true := by decide +kernel
theorem xk_p0_480 : xm_okP xm_m0 40 480 = true := by decide +kernel
theorem xk_p0_520 : xm_okP xm_m0 40 520 = true := by decide +kernel
theorem xk_p0_560 : xm_okP xm_m0 40 560 = true := by decide +kernel
theorem xk_p0_600 : xm_okP xm_m0 40 600 = true := by decide +kernel
theorem xk_p0_640 : xm_okP xm_m0 40 640 = true := by decide +kernel
theorem xk_p0_680 : xm_okP xm_m0 40 680 = true := by decide +kernel
theorem xk_e0 : xm_drop 720 xm_m0.2.2.2.2.2.2.2.2 = [] := by decide +kernel
theorem xk_ok0 : xm_okM xm_m0 = true := xl_okM (by decide +kernel) (by decide +kernel) (xl_okP (r := xm_m0) 40 0 xk_p0_0 (xl_okP (r := xm_m0) 40 40 xk_p0_40 (xl_okP (r := xm_m0) 40 80 xk_p0_80 (xl_okP (r := xm_m0) 40 120 xk_p0_120 (xl_okP (r := xm_m0) 40 160 xk_p0_160 (xl_okP (r := xm_m0) 40 200 xk_p0_200 (xl_okP (r := xm_m0) 40 240 xk_p0_240 (xl_okP (r := xm_m0) 40 280 xk_p0_280 (xl_okP (r := xm_m0) 40 320 xk_p0_320 (xl_okP (r := xm_m0) 40 360 xk_p0_360 (xl_okP (r := xm_m0) 40 400 xk_p0_400 (xl_okP (r := xm_m0) 40 440 xk_p0_440 (xl_okP (r := xm_m0) 40 480 xk_p0_480 (xl_okP (r := xm_m0) 40 520 xk_p0_520 (xl_okP (r := xm_m0) 40 560 xk_p0_560 (xl_okP (r := xm_m0) 40 600 xk_p0_600 (xl_okP (r := xm_m0) 40 640 xk_p0_640 (xl_okP (r := xm_m0) 40 680 xk_p0_680 (show xm_okC xm_m0.1 (decide (xm_m0.2.1.name = "<init>")) xm_m0.2.2.1 xm_m0.2.2.2.2.2.2.2.2 (xm_drop 720 xm_m0.2.2.2.2.2.2.2.2) = true by rw [xk_e0]; rfl)))))))))))))))))))
theorem xk_p1_0 : xm_okP xm_m1 40 0 = true := by decide +kernel
theorem xk_e1 : xm_drop 40 xm_m1.2.2.2.2.2.2.2.2 = [] := by decide +kernel
theorem xk_ok1 : xm_okM xm_m1 = true := xl_okM (by decide +kernel) (by decide +kernel) (xl_okP (r := xm_m1) 40 0 xk_p1_0 (show xm_okC xm_m1.1 (decide (xm_m1.2.1.name = "<init>")) xm_m1.2.2.1 xm_m1.2.2.2.2.2.2.2.2 (xm_drop 40 xm_m1.2.2.2.2.2.2.2.2) = true by rw [xk_e1]; rfl))
theorem xk_p2_0 : xm_okP xm_m2 40 0 = true := by decide +kernel
theorem xk_p2_40 : xm_okP xm_m2 40 40 = true := by decide +kernel
theorem xk_e2 : xm_drop 80 xm_m2.2.2.2.2.2.2.2.2 = [] := by decide +kernel
theorem xk_ok2 : xm_okM xm_m2 = true := xl_okM (by decide +kernel) (by decide +kernel) (xl_okP (r := xm_m2) 40 0 xk_p2_0 (xl_okP (r := xm_m2) 40 40 xk_p2_40 (show xm_okC xm_m2.1 (decide (xm_m2.2.1.name = "<init>")) xm_m2.2.2.1 xm_m2.2.2.2.2.2.2.2.2 (xm_drop 80 xm_m2.2.2.2.2.2.2.2.2) = true by rw [xk_e2]; rfl)))
theorem xk_p3_0 : xm_okP xm_m3 40 0 = true := by decide +kernel
theorem xk_e3 : xm_drop 40 xm_m3.2.2.2.2.2.2.2.2 = [] := by decide +kernel
theorem xk_ok3 : xm_okM xm_m3 = true := xl_okM (by decide +kernel) (by decide +kernel) (xl_okP (r := xm_m3) 40 0 xk_p3_0 (show xm_okC xm_m3.1 (decide (xm_m3.2.1.name = "<init>")) xm_m3.2.2.1 xm_m3.2.2.2.2.2.2.2.2 (xm_drop 40 xm_m3.2.2.2.2.2.2.2.2) = true by rw [xk_e3]; rfl))
theorem xk_p4_0 : xm_okP xm_m4 40 0 = true := by decide +kernel
theorem xk_e4 : xm_drop 40 xm_m4.2.2.2.2.2.2.2.2 = [] := by decide +kernel
theorem xk_ok4 : xm_okM xm_m4 = true := xl_okM (by decide +kernel) (by decide +kernel) (xl_okP (r := xm_m4) 40 0 xk_p4_0 (show xm_okC xm_m4.1 (decide (xm_m4.2.1.name = "<init>")) xm_m4.2.2.1 xm_m4.2.2.2.2.2.2.2.2 (xm_drop 40 xm_m4.2.2.2.2.2.2.2.2) = true by rw [xk_e4]; rfl))
theorem xk_p5_0 : xm_okP xm_m5 40 0 = true := by decide +kernel
theorem xk_e5 : xm_drop 40 xm_m5.2.2.2.2.2.2.2.2 = [] := by decide +kernel
theorem xk_ok5 : xm_okM xm_m5 = true := xl_okM (by decide +kernel) (by decide +kernel) (xl_okP (r := xm_m5) 40 0 xk_p5_0 (show xm_okC xm_m5.1 (decide (xm_m5.2.1.name = "<init>")) xm_m5.2.2.1 xm_m5.2.2.2.2.2.2.2.2 (xm_drop 40 xm_m5.2.2.2.2.2.2.2.2) = true by rw [xk_e5]; rfl))
theorem xk_p6_0 : xm_okP xm_m6 40 0 = true := by decide +kernel
theorem xk_e6 : xm_drop 40 xm_m6.2.2.2.2.2.2.2.2 = [] := by decide +kernel
theorem xk_ok6 : xm_okM xm_m6 = true := xl_okM (by decide +kernel) (by decide +kernel) (xl_okP (r := xm_m6) 40 0 xk_p6_0 (show xm_okC xm_m6.1 (decide (xm_m6.2.1.name = "<init>")) xm_m6.2.2.1 xm_m6.2.2.2.2.2.2.2.2 (xm_drop 40 xm_m6.2.2.2.2.2.2.2.2) = true by rw [xk_e6]; rfl))
theorem xk_p7_0 : xm_okP xm_m7 40 0 = true := by decide +kernel
theorem xk_e7 : xm_drop 40 xm_m7.2.2.2.2.2.2.2.2 = [] := by decide +kernel
theorem xk_ok7 : xm_okM xm_m7 = true := xl_okM (by decide +kernel) (by decide +kernel) (xl_okP (r := xm_m7) 40 0 xk_p7_0 (show xm_okC xm_m7.1 (decide (xm_m7.2.1.name = "<init>")) xm_m7.2.2.1 xm_m7.2.2.2.2.2.2.2.2 (xm_drop 40 xm_m7.2.2.2.2.2.2.2.2) = true by rw [xk_e7]; rfl))
theorem xk_p8_0 : xm_okP xm_m8 40 0 = true := by decide +kernel
theorem xk_p8_40 : xm_okP xm_m8 40 40 = true := by decide +kernel
theorem xk_e8 : xm_drop 80 xm_m8.2.2.2.2.2.2.2.2 = [] := by decide +kernel
theorem xk_ok8 : xm_okM xm_m8 = true := xl_okM (by decide +kernel) (by decide +kernel) (xl_okP (r := xm_m8) 40 0 xk_p8_0 (xl_okP (r := xm_m8) 40 40 xk_p8_40 (show xm_okC xm_m8.1 (decide (xm_m8.2.1.name = "<init>")) xm_m8.2.2.1 xm_m8.2.2.2.2.2.2.2.2 (xm_drop 80 xm_m8.2.2.2.2.2.2.2.2) = true by rw [xk_e8]; rfl)))
theorem xk_p9_0 : xm_okP xm_m9 40 0 = true := by decide +kernel
theorem xk_p9_40 : xm_okP xm_m9 40 40 = true := by decide +kernel
theorem xk_e9 : xm_drop 80 xm_m9.2.2.2.2.2.2.2.2 = [] := by decide +kernel
theorem xk_ok9 : xm_okM xm_m9 = true := xl_okM (by decide +kernel) (by decide +kernel) (xl_okP (r := xm_m9) 40 0 xk_p9_0 (xl_okP (r := xm_m9) 40 40 xk_p9_40 (show xm_okC xm_m9.1 (decide (xm_m9.2.1.name = "<init>")) xm_m9.2.2.1 xm_m9.2.2.2.2.2.2.2.2 (xm_drop 80 xm_m9.2.2.2.2.2.2.2.2) = true by rw [xk_e9]; rfl)))
theorem xk_p10_0 : xm_okP xm_m10 40 0 = true := by decide +kernel
theorem xk_p10_40 : xm_okP xm_m10 40 40 = true := by decide +kernel
theorem xk_e10 : xm_drop 80 xm_m10.2.2.2.2.2.2.2.2 = [] := by decide +kernel
theorem xk_ok10 : xm_okM xm_m10 = true := xl_okM (by decide +kernel) (by decide +kernel) (xl_okP (r := xm_m10) 40 0 xk_p10_0 (xl_okP (r := xm_m10) 40 40 xk_p10_40 (show xm_okC xm_m10.1 (decide (xm_m10.2.1.name = "<init>")) xm_m10.2.2.1 xm_m10.2.2.2.2.2.2.2.2 (xm_drop 80 xm_m10.2.2.2.2.2.2.2.2) = true by rw [xk_e10]; rfl)))
theorem xk_p11_0 : xm_okP xm_m11 40 0 = true := by decide +kernel
theorem xk_e11 : xm_drop 40 xm_m11.2.2.2.2.2.2.2.2 = [] := by decide +kernel
theorem xk_ok11 : xm_okM xm_m11 = true := xl_okM (by decide +kernel) (by decide +kernel) (xl_okP (r := xm_m11) 40 0 xk_p11_0 (show xm_okC xm_m11.1 (decide (xm_m11.2.1.name = "<init>")) xm_m11.2.2.1 xm_m11.2.2.2.2.2.2.2.2 (xm_drop 40 xm_m11.2.2.2.2.2.2.2.2) = true by rw [xk_e11]; rfl))
theorem xk_p12_0 : xm_okP xm_m12 40 0 = true := by decide +kernel
theorem xk_e12 : xm_drop 40 xm_m12.2.2.2.2.2.2.2.2 = [] := by decide +kernel
theorem xk_ok12 : xm_okM xm_m12 = true := xl_okM (by decide +kernel) (by decide +kernel) (xl_okP (r := xm_m12) 40 0 xk_p12_0 (show xm_okC xm_m12.1 (decide (xm_m12.2.1.name = "<init>")) xm_m12.2.2.1 xm_m12.2.2.2.2.2.2.2.2 (xm_drop 40 xm_m12.2.2.2.2.2.2.2.2) = true by rw [xk_e12]; rfl))
theorem xk_p13_0 : xm_okP xm_m13 40 0 = true := by decide +kernel
theorem xk_p13_40 : xm_okP xm_m13 40 40 = true := by decide +kernel
theorem xk_p13_80 : xm_okP xm_m13 40 80 = true := by decide +kernel
theorem xk_p13_120 : xm_okP xm_m13 40 120 = true := by decide +kernel
theorem xk_p13_160 : xm_okP xm_m13 40 160 = true := by decide +kernel
theorem xk_e13 : xm_drop 200 xm_m13.2.2.2.2.2.2.2.2 = [] := by decide +kernel
theorem xk_ok13 : xm_okM xm_m13 = true := xl_okM (by decide +kernel) (by decide +kernel) (xl_okP (r := xm_m13) 40 0 xk_p13_0 (xl_okP (r := xm_m13) 40 40 xk_p13_40 (xl_okP (r := xm_m13) 40 80 xk_p13_80 (xl_okP (r := xm_m13) 40 120 xk_p13_120 (xl_okP (r := xm_m13) 40 160 xk_p13_160 (show xm_okC xm_m13.1 (decide (xm_m13.2.1.name = "<init>")) xm_m13.2.2.1 xm_m13.2.2.2.2.2.2.2.2 (xm_drop 200 xm_m13.2.2.2.2.2.2.2.2) = true by rw [xk_e13]; rfl))))))
theorem xk_p14_0 : xm_okP xm_m14 40 0 = true := by decide +kernel
theorem xk_e14 : xm_drop 40 xm_m14.2.2.2.2.2.2.2.2 = [] := by decide +kernel
theorem xk_ok14 : xm_okM xm_m14 = true := xl_okM (by decide +kernel) (by decide +kernel) (xl_okP (r := xm_m14) 40 0 xk_p14_0 (show xm_okC xm_m14.1 (decide (xm_m14.2.1.name = "<init>")) xm_m14.2.2.1 xm_m14.2.2.2.2.2.2.2.2 (xm_drop 40 xm_m14.2.2.2.2.2.2.2.2) = true by rw [xk_e14]; rfl))
theorem xk_p15_0 : xm_okP xm_m15 40 0 = true := by decide +kernel
theorem xk_p15_40 : xm_okP xm_m15 40 40 = true := by decide +kernel
theorem xk_p15_80 : xm_okP xm_m15 40 80 = true := by decide +kernel
theorem xk_e15 : xm_drop 120 xm_m15.2.2.2.2.2.2.2.2 = [] := by decide +kernel
theorem xk_ok15 : xm_okM xm_m15 = true := xl_okM (by decide +kernel) (by decide +kernel) (xl_okP (r := xm_m15) 40 0 xk_p15_0 (xl_okP (r := xm_m15) 40 40 xk_p15_40 (xl_okP (r := xm_m15) 40 80 xk_p15_80 (show xm_okC xm_m15.1 (decide (xm_m15.2.1.name = "<init>")) xm_m15.2.2.1 xm_m15.2.2.2.2.2.2.2.2 (xm_drop 120 xm_m15.2.2.2.2.2.2.2.2) = true by rw [xk_e15]; rfl))))
theorem xk_p16_0 : xm_okP xm_m16 40 0 = true := by decide +kernel
theorem xk_e16 : xm_drop 40 xm_m16.2.2.2.2.2.2.2.2 = [] := by decide +kernel
theorem xk_ok16 : xm_okM xm_m16 = true := xl_okM (by decide +kernel) (by decide +kernel) (xl_okP (r := xm_m16) 40 0 xk_p16_0 (show xm_okC xm_m16.1 (decide (xm_m16.2.1.name = "<init>")) xm_m16.2.2.1 xm_m16.2.2.2.2.2.2.2.2 (xm_drop 40 xm_m16.2.2.2.2.2.2.2.2) = true by rw [xk_e16]; rfl))
theorem xk_p17_0 : xm_okP xm_m17 40 0 = true := by decide +kernel
theorem xk_e17 : xm_drop 40 xm_m17.2.2.2.2.2.2.2.2 = [] := by decide +kernel
theorem xk_ok17 : xm_okM xm_m17 = true := xl_okM (by decide +kernel) (by decide +kernel) (xl_okP (r := xm_m17) 40 0 xk_p17_0 (show xm_okC xm_m17.1 (decide (xm_m17.2.1.name = "<init>")) xm_m17.2.2.1 xm_m17.2.2.2.2.2.2.2.2 (xm_drop 40 xm_m17.2.2.2.2.2.2.2.2) = true by rw [xk_e17]; rfl))
theorem xk_p18_0 : xm_okP xm_m18 40 0 = true := by decide +kernel
theorem xk_e18 : xm_drop 40 xm_m18.2.2.2.2.2.2.2.2 = [] := by decide +kernel
theorem xk_ok18 : xm_okM xm_m18 = true := xl_okM (by decide +kernel) (by decide +kernel) (xl_okP (r := xm_m18) 40 0 xk_p18_0 (show xm_okC xm_m18.1 (decide (xm_m18.2.1.name = "<init>")) xm_m18.2.2.1 xm_m18.2.2.2.2.2.2.2.2 (xm_drop 40 xm_m18.2.2.2.2.2.2.2.2) = true by rw [xk_e18]; rfl))
theorem xk_p19_0 : xm_okP xm_m19 40 0 = true := by decide +kernel
theorem xk_e19 : xm_drop 40 xm_m19.2.2.2.2.2.2.2.2 = [] := by decide +kernel
theorem xk_ok19 : xm_okM xm_m19 = true := xl_okM (by decide +kernel) (by decide +kernel) (xl_okP (r := xm_m19) 40 0 xk_p19_0 (show xm_okC xm_m19.1 (decide (xm_m19.2.1.name = "<init>")) xm_m19.2.2.1 xm_m19.2.2.2.2.2.2.2.2 (xm_drop 40 xm_m19.2.2.2.2.2.2.2.2) = true by rw [xk_e19]; rfl))
theorem xk_p20_0 : xm_okP xm_m20 40 0 = true := by decide +kernel
theorem xk_e20 : xm_drop 40 xm_m20.2.2.2.2.2.2.2.2 = [] := by decide +kernel
theorem xk_ok20 : xm_okM xm_m20 = true := xl_okM (by decide +kernel) (by decide +kernel) (xl_okP (r := xm_m20) 40 0 xk_p20_0 (show xm_okC xm_m20.1 (decide (xm_m20.2.1.name = "<init>")) xm_m20.2.2.1 xm_m20.2.2.2.2.2.2.2.2 (xm_drop 40 xm_m20.2.2.2.2.2.2.2.2) = true by rw [xk_e20]; rfl))
theorem xk_p21_0 : xm_okP xm_m21 40 0 = true := by decide +kernel
theorem xk_e21 : xm_drop 40 xm_m21.2.2.2.2.2.2.2.2 = [] := by decide +kernel
theorem xk_ok21 : xm_okM xm_m21 = true := xl_okM (by decide +kernel) (by decide +kernel) (xl_okP (r := xm_m21) 40 0 xk_p21_0 (show xm_okC xm_m21.1 (decide (xm_m21.2.1.name = "<init>")) xm_m21.2.2.1 xm_m21.2.2.2.2.2.2.2.2 (xm_drop 40 xm_m21.2.2.2.2.2.2.2.2) = true by rw [xk_e21]; rfl))
theorem xk_p22_0 : xm_okP xm_m22 40 0 = true := by decide +kernel
theorem xk_e22 : xm_drop 40 xm_m22.2.2.2.2.2.2.2.2 = [] := by decide +kernel
theorem xk_ok22 : xm_okM xm_m22 = true := xl_okM (by decide +kernel) (by decide +kernel) (xl_okP (r := xm_m22) 40 0 xk_p22_0 (show xm_okC xm_m22.1 (decide (xm_m22.2.1.name = "<init>")) xm_m22.2.2.1 xm_m22.2.2.2.2.2.2.2.2 (xm_drop 40 xm_m22.2.2.2.2.2.2.2.2) = true by rw [xk_e22]; rfl))
theorem xk_p23_0 : xm_okP xm_m23 40 0 = true := by decide +kernel
theorem xk_e23 : xm_drop 40 xm_m23.2.2.2.2.2.2.2.2 = [] := by decide +kernel
theorem xk_ok23 : xm_okM xm_m23 = true := xl_okM (by decide +kernel) (by decide +kernel) (xl_okP (r := xm_m23) 40 0 xk_p23_0 (show xm_okC xm_m23.1 (decide (xm_m23.2.1.name = "<init>")) xm_m23.2.2.1 xm_m23.2.2.2.2.2.2.2.2 (xm_drop 40 xm_m23.2.2.2.2.2.2.2.2) = true by rw [xk_e23]; rfl))
theorem xk_p24_0 : xm_okP xm_m24 40 0 = true := by decide +kernel
theorem xk_e24 : xm_drop 40 xm_m24.2.2.2.2.2.2.2.2 = [] := by decide +kernel
theorem xk_ok24 : xm_okM xm_m24 = true := xl_okM (by decide +kernel) (by decide +kernel) (xl_okP (r := xm_m24) 40 0 xk_p24_0 (show xm_okC xm_m24.1 (decide (xm_m24.2.1.name = "<init>")) xm_m24.2.2.1 xm_m24.2.2.2.2.2.2.2.2 (xm_drop 40 xm_m24.2.2.2.2.2.2.2.2) = true by rw [xk_e24]; rfl))
theorem xk_p25_0 : xm_okP xm_m25 40 0 = true := by decide +kernel
theorem xk_p25_40 : xm_okP xm_m25 40 40 = true := by decide +kernel
theorem xk_p25_80 : xm_okP xm_m25 40 80 = true := by decide +kernel
theorem xk_e25 : xm_drop 120 xm_m25.2.2.2.2.2.2.2.2 = [] := by decide +kernel
theorem xk_ok25 : xm_okM xm_m25 = true := xl_okM (by decide +kernel) (by decide +kernel) (xl_okP (r := xm_m25) 40 0 xk_p25_0 (xl_okP (r := xm_m25) 40 40 xk_p25_40 (xl_okP (r := xm_m25) 40 80 xk_p25_80 (show xm_okC xm_m25.1 (decide (xm_m25.2.1.name = "<init>")) xm_m25.2.2.1 xm_m25.2.2.2.2.2.2.2.2 (xm_drop 120 xm_m25.2.2.2.2.2.2.2.2) = true by rw [xk_e25]; rfl))))
theorem xk_p26_0 : xm_okP xm_m26 40 0 = true := by decide +kernel
theorem xk_e26 : xm_drop 40 xm_m26.2.2.2.2.2.2.2.2 = [] := by decide +kernel
theorem xk_ok26 : xm_okM xm_m26 = true := xl_okM (by decide +kernel) (by decide +kernel) (xl_okP (r := xm_m26) 40 0 xk_p26_0 (show xm_okC xm_m26.1 (decide (xm_m26.2.1.name = "<init>")) xm_m26.2.2.1 xm_m26.2.2.2.2.2.2.2.2 (xm_drop 40 xm_m26.2.2.2.2.2.2.2.2) = true by rw [xk_e26]; rfl))
theorem xk_p27_0 : xm_okP xm_m27 40 0 = true := by decide +kernel
theorem xk_e27 : xm_drop 40 xm_m27.2.2.2.2.2.2.2.2 = [] := by decide +kernel
theorem xk_ok27 : xm_okM xm_m27 = true := xl_okM (by decide +kernel) (by decide +kernel) (xl_okP (r := xm_m27) 40 0 xk_p27_0 (show xm_okC xm_m27.1 (decide (xm_m27.2.1.name = "<init>")) xm_m27.2.2.1 xm_m27.2.2.2.2.2.2.2.2 (xm_drop 40 xm_m27.2.2.2.2.2.2.2.2) = true by rw [xk_e27]; rfl))
theorem xk_p28_0 : xm_okP xm_m28 40 0 = true := by decide +kernel
theorem xk_e28 : xm_drop 40 xm_m28.2.2.2.2.2.2.2.2 = [] := by decide +kernel
theorem xk_ok28 : xm_okM xm_m28 = true := xl_okM (by decide +kernel) (by decide +kernel) (xl_okP (r := xm_m28) 40 0 xk_p28_0 (show xm_okC xm_m28.1 (decide (xm_m28.2.1.name = "<init>")) xm_m28.2.2.1 xm_m28.2.2.2.2.2.2.2.2 (xm_drop 40 xm_m28.2.2.2.2.2.2.2.2) = true by rw [xk_e28]; rfl))
theorem xk_p29_0 : xm_okP xm_m29 40 0 = true := by decide +kernel
theorem xk_e29 : xm_drop 40 xm_m29.2.2.2.2.2.2.2.2 = [] := by decide +kernel
theorem xk_ok29 : xm_okM xm_m29 = true := xl_okM (by decide +kernel) (by decide +kernel) (xl_okP (r := xm_m29) 40 0 xk_p29_0 (show xm_okC xm_m29.1 (decide (xm_m29.2.1.name = "<init>")) xm_m29.2.2.1 xm_m29.2.2.2.2.2.2.2.2 (xm_drop 40 xm_m29.2.2.2.2.2.2.2.2) = true by rw [xk_e29]; rfl))
theorem xk_p30_0 : xm_okP xm_m30 40 0 = true := by decide +kernel
theorem xk_e30 : xm_drop 40 xm_m30.2.2.2.2.2.2.2.2 = [] := by decide +kernel
theorem xk_ok30 : xm_okM xm_m30 = true := xl_okM (by decide +kernel) (by decide +kernel) (xl_okP (r := xm_m30) 40 0 xk_p30_0 (show xm_okC xm_m30.1 (decide (xm_m30.2.1.name = "<init>")) xm_m30.2.2.1 xm_m30.2.2.2.2.2.2.2.2 (xm_drop 40 xm_m30.2.2.2.2.2.2.2.2) = true by rw [xk_e30]; rfl))
theorem xk_p31_0 : xm_okP xm_m31 40 0 = true := by decide +kernel
theorem xk_p31_40 : xm_okP xm_m31 40 40 = true := by decide +kernel
theorem xk_e31 : xm_drop 80 xm_m31.2.2.2.2.2.2.2.2 = [] := by decide +kernel
theorem xk_ok31 : xm_okM xm_m31 = true := xl_okM (by decide +kernel) (by decide +kernel) (xl_okP (r := xm_m31) 40 0 xk_p31_0 (xl_okP (r := xm_m31) 40 40 xk_p31_40 (show xm_okC xm_m31.1 (decide (xm_m31.2.1.name = "<init>")) xm_m31.2.2.1 xm_m31.2.2.2.2.2.2.2.2 (xm_drop 80 xm_m31.2.2.2.2.2.2.2.2) = true by rw [xk_e31]; rfl)))
theorem xk_p32_0 : xm_okP xm_m32 40 0 = true := by decide +kernel
theorem xk_e32 : xm_drop 40 xm_m32.2.2.2.2.2.2.2.2 = [] := by decide +kernel
theorem xk_ok32 : xm_okM xm_m32 = true := xl_okM (by decide +kernel) (by decide +kernel) (xl_okP (r := xm_m32) 40 0 xk_p32_0 (show xm_okC xm_m32.1 (decide (xm_m32.2.1.name = "<init>")) xm_m32.2.2.1 xm_m32.2.2.2.2.2.2.2.2 (xm_drop 40 xm_m32.2.2.2.2.2.2.2.2) = true by rw [xk_e32]; rfl))
theorem xk_p33_0 : xm_okP xm_m33 40 0 = true := by decide +kernel
theorem xk_p33_40 : xm_okP xm_m33 40 40 = true := by decide +kernel
theorem xk_p33_80 : xm_okP xm_m33 40 80 = true := by decide +kernel
theorem xk_e33 : xm_drop 120 xm_m33.2.2.2.2.2.2.2.2 = [] := by decide +kernel
theorem xk_ok33 : xm_okM xm_m33 = true := xl_okM (by decide +kernel) (by decide +kernel) (xl_okP (r := xm_m33) 40 0 xk_p33_0 (xl_okP (r := xm_m33) 40 40 xk_p33_40 (xl_okP (r := xm_m33) 40 80 xk_p33_80 (show xm_okC xm_m33.1 (decide (xm_m33.2.1.name = "<init>")) xm_m33.2.2.1 xm_m33.2.2.2.2.2.2.2.2 (xm_drop 120 xm_m33.2.2.2.2.2.2.2.2) = true by rw [xk_e33]; rfl))))
theorem xk_p34_0 : xm_okP xm_m34 40 0 = true := by decide +kernel
theorem xk_p34_40 : xm_okP xm_m34 40 40 = true := by decide +kernel
theorem xk_p34_80 : xm_okP xm_m34 40 80 = true := by decide +kernel
theorem xk_e34 : xm_drop 120 xm_m34.2.2.2.2.2.2.2.2 = [] := by decide +kernel
theorem xk_ok34 : xm_okM xm_m34 = true := xl_okM (by decide +kernel) (by decide +kernel) (xl_okP (r := xm_m34) 40 0 xk_p34_0 (xl_okP (r := xm_m34) 40 40 xk_p34_40 (xl_okP (r := xm_m34) 40 80 xk_p34_80 (show xm_okC xm_m34.1 (decide (xm_m34.2.1.name = "<init>")) xm_m34.2.2.1 xm_m34.2.2.2.2.2.2.2.2 (xm_drop 120 xm_m34.2.2.2.2.2.2.2.2) = true by rw [xk_e34]; rfl))))
theorem xk_p35_0 : xm_okP xm_m35 40 0 = true := by decide +kernel
theorem xk_e35 : xm_drop 40 xm_m35.2.2.2.2.2.2.2.2 = [] := by decide +kernel
theorem xk_ok35 : xm_okM xm_m35 = true := xl_okM (by decide +kernel) (by decide +kernel) (xl_okP (r := xm_m35) 40 0 xk_p35_0 (show xm_okC xm_m35.1 (decide (xm_m35.2.1.name = "<init>")) xm_m35.2.2.1 xm_m35.2.2.2.2.2.2.2.2 (xm_drop 40 xm_m35.2.2.2.2.2.2.2.2) = true by rw [xk_e35]; rfl))
theorem xk_p36_0 : xm_okP xm_m36 40 0 = true := by decide +kernel
theorem xk_e36 : xm_drop 40 xm_m36.2.2.2.2.2.2.2.2 = [] := by decide +kernel
theorem xk_ok36 : xm_okM xm_m36 = true := xl_okM (by decide +kernel) (by decide +kernel) (xl_okP (r := xm_m36) 40 0 xk_p36_0 (show xm_okC xm_m36.1 (decide (xm_m36.2.1.name = "<init>")) xm_m36.2.2.1 xm_m36.2.2.2.2.2.2.2.2 (xm_drop 40 xm_m36.2.2.2.2.2.2.2.2) = true by rw [xk_e36]; rfl))
theorem xk_p37_0 : xm_okP xm_m37 40 0 = true := by decide +kernel
theorem xk_e37 : xm_drop 40 xm_m37.2.2.2.2.2.2.2.2 = [] := by decide +kernel
theorem xk_ok37 : xm_okM xm_m37 = true := xl_okM (by decide +kernel) (by decide +kernel) (xl_okP (r := xm_m37) 40 0 xk_p37_0 (show xm_okC xm_m37.1 (decide (xm_m37.2.1.name = "<init>")) xm_m37.2.2.1 xm_m37.2.2.2.2.2.2.2.2 (xm_drop 40 xm_m37.2.2.2.2.2.2.2.2) = true by rw [xk_e37]; rfl))
theorem xk_p38_0 : xm_okP xm_m38 40 0 = true := by decide +kernel
theorem xk_e38 : xm_drop 40 xm_m38.2.2.2.2.2.2.2.2 = [] := by decide +kernel
theorem xk_ok38 : xm_okM xm_m38 = true := xl_okM (by decide +kernel) (by decide +kernel) (xl_okP (r := xm_m38) 40 0 xk_p38_0 (show xm_okC xm_m38.1 (decide (xm_m38.2.1.name = "<init>")) xm_m38.2.2.1 xm_m38.2.2.2.2.2.2.2.2 (xm_drop 40 xm_m38.2.2.2.2.2.2.2.2) = true by rw [xk_e38]; rfl))
theorem xk_p39_0 : xm_okP xm_m39 40 0 = true := by decide +kernel
theorem xk_e39 : xm_drop 40 xm_m39.2.2.2.2.2.2.2.2 = [] := by decide +kernel
theorem xk_ok39 : xm_okM xm_m39 = true := xl_okM (by decide +kernel) (by decide +kernel) (xl_okP (r := xm_m39) 40 0 xk_p39_0 (show xm_okC xm_m39.1 (decide (xm_m39.2.1.name = "<init>")) xm_m39.2.2.1 xm_m39.2.2.2.2.2.2.2.2 (xm_drop 40 xm_m39.2.2.2.2.2.2.2.2) = true by rw [xk_e39]; rfl))
theorem xk_p40_0 : xm_okP xm_m40 40 0 = true := by decide +kernel
theorem xk_e40 : xm_drop 40 xm_m40.2.2.2.2.2.2.2.2 = [] := by decide +kernel
theorem xk_ok40 : xm_okM xm_m40 = true := xl_okM (by decide +kernel) (by decide +kernel) (xl_okP (r := xm_m40) 40 0 xk_p40_0 (show xm_okC xm_m40.1 (decide (xm_m40.2.1.name = "<init>")) xm_m40.2.2.1 xm_m40.2.2.2.2.2.2.2.2 (xm_drop 40 xm_m40.2.2.2.2.2.2.2.2) = true by rw [xk_e40]; rfl))
theorem xk_p41_0 : xm_okP xm_m41 40 0 = true := by decide +kernel
theorem xk_e41 : xm_drop 40 xm_m41.2.2.2.2.2.2.2.2 = [] := by decide +kernel
theorem xk_ok41 : xm_okM xm_m41 = true := xl_okM (by decide +kernel) (by decide +kernel) (xl_okP (r := xm_m41) 40 0 xk_p41_0 (show xm_okC xm_m41.1 (decide (xm_m41.2.1.name = "<init>")) xm_m41.2.2.1 xm_m41.2.2.2.2.2.2.2.2 (xm_drop 40 xm_m41.2.2.2.2.2.2.2.2) = true by rw [xk_e41]; rfl))
theorem xk_p42_0 : xm_okP xm_m42 40 0 = true := by decide +kernel
theorem xk_e42 : xm_drop 40 xm_m42.2.2.2.2.2.2.2.2 = [] := by decide +kernel
theorem xk_ok42 : xm_okM xm_m42 = true := xl_okM (by decide +kernel) (by decide +kernel) (xl_okP (r := xm_m42) 40 0 xk_p42_0 (show xm_okC xm_m42.1 (decide (xm_m42.2.1.name = "<init>")) xm_m42.2.2.1 xm_m42.2.2.2.2.2.2.2.2 (xm_drop 40 xm_m42.2.2.2.2.2.2.2.2) = true by rw [xk_e42]; rfl))
theorem xk_p43_0 : xm_okP xm_m43 40 0 = true := by decide +kernel
theorem xk_e43 : xm_drop 40 xm_m43.2.2.2.2.2.2.2.2 = [] := by decide +kernel
theorem xk_ok43 : xm_okM xm_m43 = true := xl_okM (by decide +kernel) (by decide +kernel) (xl_okP (r := xm_m43) 40 0 xk_p43_0 (show xm_okC xm_m43.1 (decide (xm_m43.2.1.name = "<init>")) xm_m43.2.2.1 xm_m43.2.2.2.2.2.2.2.2 (xm_drop 40 xm_m43.2.2.2.2.2.2.2.2) = true by rw [xk_e43]; rfl))
theorem xk_p44_0 : xm_okP xm_m44 40 0 = true := by decide +kernel
theorem xk_e44 : xm_drop 40 xm_m44.2.2.2.2.2.2.2.2 = [] := by decide +kernel
theorem xk_ok44 : xm_okM xm_m44 = true := xl_okM (by decide +kernel) (by decide +kernel) (xl_okP (r := xm_m44) 40 0 xk_p44_0 (show xm_okC xm_m44.1 (decide (xm_m44.2.1.name = "<init>")) xm_m44.2.2.1 xm_m44.2.2.2.2.2.2.2.2 (xm_drop 40 xm_m44.2.2.2.2.2.2.2.2) = true by rw [xk_e44]; rfl))
theorem xk_p45_0 : xm_okP xm_m45 40 0 = true := by decide +kernel
theorem xk_e45 : xm_drop 40 xm_m45.2.2.2.2.2.2.2.2 = [] := by decide +kernel
theorem xk_ok45 : xm_okM xm_m45 = true := xl_okM (by decide +kernel) (by decide +kernel) (xl_okP (r := xm_m45) 40 0 xk_p45_0 (show xm_okC xm_m45.1 (decide (xm_m45.2.1.name = "<init>")) xm_m45.2.2.1 xm_m45.2.2.2.2.2.2.2.2 (xm_drop 40 xm_m45.2.2.2.2.2.2.2.2) = true by rw [xk_e45]; rfl))
theorem xk_p46_0 : xm_okP xm_m46 40 0 = true := by decide +kernel
theorem xk_p46_40 : xm_okP xm_m46 40 40 = true := by decide +kernel
theorem xk_p46_80 : xm_okP xm_m46 40 80 = true := by decide +kernel
theorem xk_e46 : xm_drop 120 xm_m46.2.2.2.2.2.2.2.2 = [] := by decide +kernel
theorem xk_ok46 : xm_okM xm_m46 = true := xl_okM (by decide +kernel) (by decide +kernel) (xl_okP (r := xm_m46) 40 0 xk_p46_0 (xl_okP (r := xm_m46) 40 40 xk_p46_40 (xl_okP (r := xm_m46) 40 80 xk_p46_80 (show xm_okC xm_m46.1 (decide (xm_m46.2.1.name = "<init>")) xm_m46.2.2.1 xm_m46.2.2.2.2.2.2.2.2 (xm_drop 120 xm_m46.2.2.2.2.2.2.2.2) = true by rw [xk_e46]; rfl))))
theorem xk_p47_0 : xm_okP xm_m47 40 0 = true := by decide +kernel
theorem xk_p47_40 : xm_okP xm_m47 40 40 = true := by decide +kernel
theorem xk_e47 : xm_drop 80 xm_m47.2.2.2.2.2.2.2.2 = [] := by decide +kernel
theorem xk_ok47 : xm_okM xm_m47 = true := xl_okM (by decide +kernel) (by decide +kernel) (xl_okP (r := xm_m47) 40 0 xk_p47_0 (xl_okP (r := xm_m47) 40 40 xk_p47_40 (show xm_okC xm_m47.1 (decide (xm_m47.2.1.name = "<init>")) xm_m47.2.2.1 xm_m47.2.2.2.2.2.2.2.2 (xm_drop 80 xm_m47.2.2.2.2.2.2.2.2) = true by rw [xk_e47]; rfl)))
theorem xk_p48_0 : xm_okP xm_m48 40 0 = true := by decide +kernel
theorem xk_e48 : xm_drop 40 xm_m48.2.2.2.2.2.2.2.2 = [] := by decide +kernel
theorem xk_ok48 : xm_okM xm_m48 = true := xl_okM (by decide +kernel) (by decide +kernel) (xl_okP (r := xm_m48) 40 0 xk_p48_0 (show xm_okC xm_m48.1 (decide (xm_m48.2.1.name = "<init>")) xm_m48.2.2.1 xm_m48.2.2.2.2.2.2.2.2 (xm_drop 40 xm_m48.2.2.2.2.2.2.2.2) = true by rw [xk_e48]; rfl))
theorem xk_p49_0 : xm_okP xm_m49 40 0 = true := by decide +kernel
theorem xk_e49 : xm_drop 40 xm_m49.2.2.2.2.2.2.2.2 = [] := by decide +kernel
theorem xk_ok49 : xm_okM xm_m49 = true := xl_okM (by decide +kernel) (by decide +kernel) (xl_okP (r := xm_m49) 40 0 xk_p49_0 (show xm_okC xm_m49.1 (decide (xm_m49.2.1.name = "<init>")) xm_m49.2.2.1 xm_m49.2.2.2.2.2.2.2.2 (xm_drop 40 xm_m49.2.2.2.2.2.2.2.2) = true by rw [xk_e49]; rfl))
theorem xk_p50_0 : xm_okP xm_m50 40 0 = true := by decide +kernel
theorem xk_p50_40 : xm_okP xm_m50 40 40 = true := by decide +kernel
theorem xk_e50 : xm_drop 80 xm_m50.2.2.2.2.2.2.2.2 = [] := by decide +kernel
theorem xk_ok50 : xm_okM xm_m50 = true := xl_okM (by decide +kernel) (by decide +kernel) (xl_okP (r := xm_m50) 40 0 xk_p50_0 (xl_okP (r := xm_m50) 40 40 xk_p50_40 (show xm_okC xm_m50.1 (decide (xm_m50.2.1.name = "<init>")) xm_m50.2.2.1 xm_m50.2.2.2.2.2.2.2.2 (xm_drop 80 xm_m50.2.2.2.2.2.2.2.2) = true by rw [xk_e50]; rfl)))
end
section
theorem xk_p51_0 : xm_okP xm_m51 40 0 = true := by decide +kernel
theorem xk_e51 : xm_drop 40 xm_m51.2.2.2.2.2.2.2.2 = [] := by decide +kernel
theorem xk_ok51 : xm_okM xm_m51 = true := xl_okM (by decide +kernel) (by decide +kernel) (xl_okP (r := xm_m51) 40 0 xk_p51_0 (show xm_okC xm_m51.1 (decide (xm_m51.2.1.name = "<init>")) xm_m51.2.2.1 xm_m51.2.2.2.2.2.2.2.2 (xm_drop 40 xm_m51.2.2.2.2.2.2.2.2) = true by rw [xk_e51]; rfl))
theorem xk_p52_0 : xm_okP xm_m52 40 0 = true := by decide +kernel
theorem xk_e52 : xm_drop 40 xm_m52.2.2.2.2.2.2.2.2 = [] := by decide +kernel
theorem xk_ok52 : xm_okM xm_m52 = true := xl_okM (by decide +kernel) (by decide +kernel) (xl_okP (r := xm_m52) 40 0 xk_p52_0 (show xm_okC xm_m52.1 (decide (xm_m52.2.1.name = "<init>")) xm_m52.2.2.1 xm_m52.2.2.2.2.2.2.2.2 (xm_drop 40 xm_m52.2.2.2.2.2.2.2.2) = true by rw [xk_e52]; rfl))
theorem xk_p53_0 : xm_okP xm_m53 40 0 = true := by decide +kernel
theorem xk_p53_40 : xm_okP xm_m53 40 40 = true := by decide +kernel
theorem xk_e53 : xm_drop 80 xm_m53.2.2.2.2.2.2.2.2 = [] := by decide +kernel
theorem xk_ok53 : xm_okM xm_m53 = true := xl_okM (by decide +kernel) (by decide +kernel) (xl_okP (r := xm_m53) 40 0 xk_p53_0 (xl_okP (r := xm_m53) 40 40 xk_p53_40 (show xm_okC xm_m53.1 (decide (xm_m53.2.1.name = "<init>")) xm_m53.2.2.1 xm_m53.2.2.2.2.2.2.2.2 (xm_drop 80 xm_m53.2.2.2.2.2.2.2.2) = true by rw [xk_e53]; rfl)))
theorem xk_p54_0 : xm_okP xm_m54 40 0 = true := by decide +kernel
theorem xk_p54_40 : xm_okP xm_m54 40 40 = true := by decide +kernel
theorem xk_e54 : xm_drop 80 xm_m54.2.2.2.2.2.2.2.2 = [] := by decide +kernel
theorem xk_ok54 : xm_okM xm_m54 = true := xl_okM (by decide +kernel) (by decide +kernel) (xl_okP (r := xm_m54) 40 0 xk_p54_0 (xl_okP (r := xm_m54) 40 40 xk_p54_40 (show xm_okC xm_m54.1 (decide (xm_m54.2.1.name = "<init>")) xm_m54.2.2.1 xm_m54.2.2.2.2.2.2.2.2 (xm_drop 80 xm_m54.2.2.2.2.2.2.2.2) = true by rw [xk_e54]; rfl)))
theorem xk_p55_0 : xm_okP xm_m55 40 0 = true := by decide +kernel
theorem xk_p55_40 : xm_okP xm_m55 40 40 = true := by decide +kernel
theorem xk_e55 : xm_drop 80 xm_m55.2.2.2.2.2.2.2.2 = [] := by decide +kernel
theorem xk_ok55 : xm_okM xm_m55 = true := xl_okM (by decide +kernel) (by decide +kernel) (xl_okP (r := xm_m55) 40 0 xk_p55_0 (xl_okP (r := xm_m55) 40 40 xk_p55_40 (show xm_okC xm_m55.1 (decide (xm_m55.2.1.name = "<init>")) xm_m55.2.2.1 xm_m55.2.2.2.2.2.2.2.2 (xm_drop 80 xm_m55.2.2.2.2.2.2.2.2) = true by rw [xk_e55]; rfl)))
theorem xk_p56_0 : xm_okP xm_m56 40 0 = true := by decide +kernel
theorem xk_p56_40 : xm_okP xm_m56 40 40 = true := by decide +kernel
theorem xk_p56_80 : xm_okP xm_m56 40 80 = true := by decide +kernel
theorem xk_e56 : xm_drop 120 xm_m56.2.2.2.2.2.2.2.2 = [] := by decide +kernel
theorem xk_ok56 : xm_okM xm_m56 = true := xl_okM (by decide +kernel) (by decide +kernel) (xl_okP (r := xm_m56) 40 0 xk_p56_0 (xl_okP (r := xm_m56) 40 40 xk_p56_40 (xl_okP (r := xm_m56) 40 80 xk_p56_80 (show xm_okC xm_m56.1 (decide (xm_m56.2.1.name = "<init>")) xm_m56.2.2.1 xm_m56.2.2.2.2.2.2.2.2 (xm_drop 120 xm_m56.2.2.2.2.2.2.2.2) = true by rw [xk_e56]; rfl))))
theorem xk_p57_0 : xm_okP xm_m57 40 0 = true := by decide +kernel
theorem xk_e57 : xm_drop 40 xm_m57.2.2.2.2.2.2.2.2 = [] := by decide +kernel
theorem xk_ok57 : xm_okM xm_m57 = true := xl_okM (by decide +kernel) (by decide +kernel) (xl_okP (r := xm_m57) 40 0 xk_p57_0 (show xm_okC xm_m57.1 (decide (xm_m57.2.1.name = "<init>")) xm_m57.2.2.1 xm_m57.2.2.2.2.2.2.2.2 (xm_drop 40 xm_m57.2.2.2.2.2.2.2.2) = true by rw [xk_e57]; rfl))
theorem xk_p58_0 : xm_okP xm_m58 40 0 = true := by decide +kernel
theorem xk_e58 : xm_drop 40 xm_m58.2.2.2.2.2.2.2.2 = [] := by decide +kernel
theorem xk_ok58 : xm_okM xm_m58 = true := xl_okM (by decide +kernel) (by decide +kernel) (xl_okP (r := xm_m58) 40 0 xk_p58_0 (show xm_okC xm_m58.1 (decide (xm_m58.2.1.name = "<init>")) xm_m58.2.2.1 xm_m58.2.2.2.2.2.2.2.2 (xm_drop 40 xm_m58.2.2.2.2.2.2.2.2) = true by rw [xk_e58]; rfl))
theorem xk_p59_0 : xm_okP xm_m59 40 0 = true := by decide +kernel
theorem xk_e59 : xm_drop 40 xm_m59.2.2.2.2.2.2.2.2 = [] := by decide +kernel
theorem xk_ok59 : xm_okM xm_m59 = true := xl_okM (by decide +kernel) (by decide +kernel) (xl_okP (r := xm_m59) 40 0 xk_p59_0 (show xm_okC xm_m59.1 (decide (xm_m59.2.1.name = "<init>")) xm_m59.2.2.1 xm_m59.2.2.2.2.2.2.2.2 (xm_drop 40 xm_m59.2.2.2.2.2.2.2.2) = true by rw [xk_e59]; rfl))
theorem xk_p60_0 : xm_okP xm_m60 40 0 = true := by decide +kernel
theorem xk_e60 : xm_drop 40 xm_m60.2.2.2.2.2.2.2.2 = [] := by decide +kernel
theorem xk_ok60 : xm_okM xm_m60 = true := xl_okM (by decide +kernel) (by decide +kernel) (xl_okP (r := xm_m60) 40 0 xk_p60_0 (show xm_okC xm_m60.1 (decide (xm_m60.2.1.name = "<init>")) xm_m60.2.2.1 xm_m60.2.2.2.2.2.2.2.2 (xm_drop 40 xm_m60.2.2.2.2.2.2.2.2) = true by rw [xk_e60]; rfl))
theorem xk_p61_0 : xm_okP xm_m61 40 0 = true := by decide +kernel
theorem xk_e61 : xm_drop 40 xm_m61.2.2.2.2.2.2.2.2 = [] := by decide +kernel
theorem xk_ok61 : xm_okM xm_m61 = true := xl_okM (by decide +kernel) (by decide +kernel) (xl_okP (r := xm_m61) 40 0 xk_p61_0 (show xm_okC xm_m61.1 (decide (xm_m61.2.1.name = "<init>")) xm_m61.2.2.1 xm_m61.2.2.2.2.2.2.2.2 (xm_drop 40 xm_m61.2.2.2.2.2.2.2.2) = true by rw [xk_e61]; rfl))
theorem xk_p62_0 : xm_okP xm_m62 40 0 = true := by decide +kernel
theorem xk_e62 : xm_drop 40 xm_m62.2.2.2.2.2.2.2.2 = [] := by decide +kernel
theorem xk_ok62 : xm_okM xm_m62 = true := xl_okM (by decide +kernel) (by decide +kernel) (xl_okP (r := xm_m62) 40 0 xk_p62_0 (show xm_okC xm_m62.1 (decide (xm_m62.2.1.name = "<init>")) xm_m62.2.2.1 xm_m62.2.2.2.2.2.2.2.2 (xm_drop 40 xm_m62.2.2.2.2.2.2.2.2) = true by rw [xk_e62]; rfl))
theorem xk_p63_0 : xm_okP xm_m63 40 0 = true := by decide +kernel
theorem xk_p63_40 : xm_okP xm_m63 40 40 = true := by decide +kernel
theorem xk_e63 : xm_drop 80 xm_m63.2.2.2.2.2.2.2.2 = [] := by decide +kernel
theorem xk_ok63 : xm_okM xm_m63 = true := xl_okM (by decide +kernel) (by decide +kernel) (xl_okP (r := xm_m63) 40 0 xk_p63_0 (xl_okP (r := xm_m63) 40 40 xk_p63_40 (show xm_okC xm_m63.1 (decide (xm_m63.2.1.name = "<init>")) xm_m63.2.2.1 xm_m63.2.2.2.2.2.2.2.2 (xm_drop 80 xm_m63.2.2.2.2.2.2.2.2) = true by rw [xk_e63]; rfl)))
theorem xk_p64_0 : xm_okP xm_m64 40 0 = true := by decide +kernel
theorem xk_p64_40 : xm_okP xm_m64 40 40 = true := by decide +kernel
theorem xk_p64_80 : xm_okP xm_m64 40 80 = true := by decide +kernel
theorem xk_p64_120 : xm_okP xm_m64 40 120 = true := by decide +kernel
theorem xk_p64_160 : xm_okP xm_m64 40 160 = true := by decide +kernel
theorem xk_p64_200 : xm_okP xm_m64 40 200 = true := by decide +kernel
theorem xk_e64 : xm_drop 240 xm_m64.2.2.2.2.2.2.2.2 = [] := by decide +kernel
theorem xk_ok64 : xm_okM xm_m64 = true := xl_okM (by decide +kernel) (by decide +kernel) (xl_okP (r := xm_m64) 40 0 xk_p64_0 (xl_okP (r := xm_m64) 40 40 xk_p64_40 (xl_okP (r := xm_m64) 40 80 xk_p64_80 (xl_okP (r := xm_m64) 40 120 xk_p64_120 (xl_okP (r := xm_m64) 40 160 xk_p64_160 (xl_okP (r := xm_m64) 40 200 xk_p64_200 (show xm_okC xm_m64.1 (decide (xm_m64.2.1.name = "<init>")) xm_m64.2.2.1 xm_m64.2.2.2.2.2.2.2.2 (xm_drop 240 xm_m64.2.2.2.2.2.2.2.2) = true by rw [xk_e64]; rfl)))))))
theorem xk_p65_0 : xm_okP xm_m65 40 0 = true := by decide +kernel
theorem xk_e65 : xm_drop 40 xm_m65.2.2.2.2.2.2.2.2 = [] := by decide +kernel
theorem xk_ok65 : xm_okM xm_m65 = true := xl_okM (by decide +kernel) (by decide +kernel) (xl_okP (r := xm_m65) 40 0 xk_p65_0 (show xm_okC xm_m65.1 (decide (xm_m65.2.1.name = "<init>")) xm_m65.2.2.1 xm_m65.2.2.2.2.2.2.2.2 (xm_drop 40 xm_m65.2.2.2.2.2.2.2.2) = true by rw [xk_e65]; rfl))
theorem xk_p66_0 : xm_okP xm_m66 40 0 = true := by decide +kernel
theorem xk_p66_40 : xm_okP xm_m66 40 40 = true := by decide +kernel
theorem xk_e66 : xm_drop 80 xm_m66.2.2.2.2.2.2.2.2 = [] := by decide +kernel
theorem xk_ok66 : xm_okM xm_m66 = true := xl_okM (by decide +kernel) (by decide +kernel) (xl_okP (r := xm_m66) 40 0 xk_p66_0 (xl_okP (r := xm_m66) 40 40 xk_p66_40 (show xm_okC xm_m66.1 (decide (xm_m66.2.1.name = "<init>")) xm_m66.2.2.1 xm_m66.2.2.2.2.2.2.2.2 (xm_drop 80 xm_m66.2.2.2.2.2.2.2.2) = true by rw [xk_e66]; rfl)))
theorem xk_p67_0 : xm_okP xm_m67 40 0 = true := by decide +kernel
theorem xk_p67_40 : xm_okP xm_m67 40 40 = true := by decide +kernel
theorem xk_e67 : xm_drop 80 xm_m67.2.2.2.2.2.2.2.2 = [] := by decide +kernel
theorem xk_ok67 : xm_okM xm_m67 = true := xl_okM (by decide +kernel) (by decide +kernel) (xl_okP (r := xm_m67) 40 0 xk_p67_0 (xl_okP (r := xm_m67) 40 40 xk_p67_40 (show xm_okC xm_m67.1 (decide (xm_m67.2.1.name = "<init>")) xm_m67.2.2.1 xm_m67.2.2.2.2.2.2.2.2 (xm_drop 80 xm_m67.2.2.2.2.2.2.2.2) = true by rw [xk_e67]; rfl)))
theorem xk_p68_0 : xm_okP xm_m68 40 0 = true := by decide +kernel
theorem xk_p68_40 : xm_okP xm_m68 40 40 = true := by decide +kernel
theorem xk_e68 : xm_drop 80 xm_m68.2.2.2.2.2.2.2.2 = [] := by decide +kernel
theorem xk_ok68 : xm_okM xm_m68 = true := xl_okM (by decide +kernel) (by decide +kernel) (xl_okP (r := xm_m68) 40 0 xk_p68_0 (xl_okP (r := xm_m68) 40 40 xk_p68_40 (show xm_okC xm_m68.1 (decide (xm_m68.2.1.name = "<init>")) xm_m68.2.2.1 xm_m68.2.2.2.2.2.2.2.2 (xm_drop 80 xm_m68.2.2.2.2.2.2.2.2) = true by rw [xk_e68]; rfl)))
theorem xk_p69_0 : xm_okP xm_m69 40 0 = true := by decide +kernel
theorem xk_e69 : xm_drop 40 xm_m69.2.2.2.2.2.2.2.2 = [] := by decide +kernel
theorem xk_ok69 : xm_okM xm_m69 = true := xl_okM (by decide +kernel) (by decide +kernel) (xl_okP (r := xm_m69) 40 0 xk_p69_0 (show xm_okC xm_m69.1 (decide (xm_m69.2.1.name = "<init>")) xm_m69.2.2.1 xm_m69.2.2.2.2.2.2.2.2 (xm_drop 40 xm_m69.2.2.2.2.2.2.2.2) = true by rw [xk_e69]; rfl))
theorem xk_p70_0 : xm_okP xm_m70 40 0 = true := by decide +kernel
theorem xk_e70 : xm_drop 40 xm_m70.2.2.2.2.2.2.2.2 = [] := by decide +kernel
theorem xk_ok70 : xm_okM xm_m70 = true := xl_okM (by decide +kernel) (by decide +kernel) (xl_okP (r := xm_m70) 40 0 xk_p70_0 (show xm_okC xm_m70.1 (decide (xm_m70.2.1.name = "<init>")) xm_m70.2.2.1 xm_m70.2.2.2.2.2.2.2.2 (xm_drop 40 xm_m70.2.2.2.2.2.2.2.2) = true by rw [xk_e70]; rfl))
theorem xk_p71_0 : xm_okP xm_m71 40 0 = true := by decide +kernel
theorem xk_p71_40 : xm_okP xm_m71 40 40 = true := by decide +kernel
theorem xk_e71 : xm_drop 80 xm_m71.2.2.2.2.2.2.2.2 = [] := by decide +kernel
theorem xk_ok71 : xm_okM xm_m71 = true := xl_okM (by decide +kernel) (by decide +kernel) (xl_okP (r := xm_m71) 40 0 xk_p71_0 (xl_okP (r := xm_m71) 40 40 xk_p71_40 (show xm_okC xm_m71.1 (decide (xm_m71.2.1.name = "<init>")) xm_m71.2.2.1 xm_m71.2.2.2.2.2.2.2.2 (xm_drop 80 xm_m71.2.2.2.2.2.2.2.2) = true by rw [xk_e71]; rfl)))
theorem xk_p72_0 : xm_okP xm_m72 40 0 = true := by decide +kernel
theorem xk_e72 : xm_drop 40 xm_m72.2.2.2.2.2.2.2.2 = [] := by decide +kernel
theorem xk_ok72 : xm_okM xm_m72 = true := xl_okM (by decide +kernel) (by decide +kernel) (xl_okP (r := xm_m72) 40 0 xk_p72_0 (show xm_okC xm_m72.1 (decide (xm_m72.2.1.name = "<init>")) xm_m72.2.2.1 xm_m72.2.2.2.2.2.2.2.2 (xm_drop 40 xm_m72.2.2.2.2.2.2.2.2) = true by rw [xk_e72]; rfl))
theorem xk_p73_0 : xm_okP xm_m73 40 0 = true := by decide +kernel
theorem xk_p73_40 : xm_okP xm_m73 40 40 = true := by decide +kernel
theorem xk_e73 : xm_drop 80 xm_m73.2.2.2.2.2.2.2.2 = [] := by decide +kernel
theorem xk_ok73 : xm_okM xm_m73 = true := xl_okM (by decide +kernel) (by decide +kernel) (xl_okP (r := xm_m73) 40 0 xk_p73_0 (xl_okP (r := xm_m73) 40 40 xk_p73_40 (show xm_okC xm_m73.1 (decide (xm_m73.2.1.name = "<init>")) xm_m73.2.2.1 xm_m73.2.2.2.2.2.2.2.2 (xm_drop 80 xm_m73.2.2.2.2.2.2.2.2) = true by rw [xk_e73]; rfl)))
theorem xk_p74_0 : xm_okP xm_m74 40 0 = true := by decide +kernel
theorem xk_e74 : xm_drop 40 xm_m74.2.2.2.2.2.2.2.2 = [] := by decide +kernel
theorem xk_ok74 : xm_okM xm_m74 = true := xl_okM (by decide +kernel) (by decide +kernel) (xl_okP (r := xm_m74) 40 0 xk_p74_0 (show xm_okC xm_m74.1 (decide (xm_m74.2.1.name = "<init>")) xm_m74.2.2.1 xm_m74.2.2.2.2.2.2.2.2 (xm_drop 40 xm_m74.2.2.2.2.2.2.2.2) = true by rw [xk_e74]; rfl))
theorem xk_p75_0 : xm_okP xm_m75 40 0 = true := by decide +kernel
theorem xk_e75 : xm_drop 40 xm_m75.2.2.2.2.2.2.2.2 = [] := by decide +kernel
theorem xk_ok75 : xm_okM xm_m75 = true := xl_okM (by decide +kernel) (by decide +kernel) (xl_okP (r := xm_m75) 40 0 xk_p75_0 (show xm_okC xm_m75.1 (decide (xm_m75.2.1.name = "<init>")) xm_m75.2.2.1 xm_m75.2.2.2.2.2.2.2.2 (xm_drop 40 xm_m75.2.2.2.2.2.2.2.2) = true by rw [xk_e75]; rfl))
theorem xk_p76_0 : xm_okP xm_m76 40 0 = true := by decide +kernel
theorem xk_p76_40 : xm_okP xm_m76 40 40 = true := by decide +kernel
theorem xk_e76 : xm_drop 80 xm_m76.2.2.2.2.2.2.2.2 = [] := by decide +kernel
theorem xk_ok76 : xm_okM xm_m76 = true := xl_okM (by decide +kernel) (by decide +kernel) (xl_okP (r := xm_m76) 40 0 xk_p76_0 (xl_okP (r := xm_m76) 40 40 xk_p76_40 (show xm_okC xm_m76.1 (decide (xm_m76.2.1.name = "<init>")) xm_m76.2.2.1 xm_m76.2.2.2.2.2.2.2.2 (xm_drop 80 xm_m76.2.2.2.2.2.2.2.2) = true by rw [xk_e76]; rfl)))
theorem xk_p77_0 : xm_okP xm_m77 40 0 = true := by decide +kernel
theorem xk_e77 : xm_drop 40 xm_m77.2.2.2.2.2.2.2.2 = [] := by decide +kernel
theorem xk_ok77 : xm_okM xm_m77 = true := xl_okM (by decide +kernel) (by decide +kernel) (xl_okP (r := xm_m77) 40 0 xk_p77_0 (show xm_okC xm_m77.1 (decide (xm_m77.2.1.name = "<init>")) xm_m77.2.2.1 xm_m77.2.2.2.2.2.2.2.2 (xm_drop 40 xm_m77.2.2.2.2.2.2.2.2) = true by rw [xk_e77]; rfl))
theorem xk_p78_0 : xm_okP xm_m78 40 0 = true := by decide +kernel
theorem xk_e78 : xm_drop 40 xm_m78.2.2.2.2.2.2.2.2 = [] := by decide +kernel
theorem xk_ok78 : xm_okM xm_m78 = true := xl_okM (by decide +kernel) (by decide +kernel) (xl_okP (r := xm_m78) 40 0 xk_p78_0 (show xm_okC xm_m78.1 (decide (xm_m78.2.1.name = "<init>")) xm_m78.2.2.1 xm_m78.2.2.2.2.2.2.2.2 (xm_drop 40 xm_m78.2.2.2.2.2.2.2.2) = true by rw [xk_e78]; rfl))
theorem xk_p79_0 : xm_okP xm_m79 40 0 = true := by decide +kernel
theorem xk_e79 : xm_drop 40 xm_m79.2.2.2.2.2.2.2.2 = [] := by decide +kernel
theorem xk_ok79 : xm_okM xm_m79 = true := xl_okM (by decide +kernel) (by decide +kernel) (xl_okP (r := xm_m79) 40 0 xk_p79_0 (show xm_okC xm_m79.1 (decide (xm_m79.2.1.name = "<init>")) xm_m79.2.2.1 xm_m79.2.2.2.2.2.2.2.2 (xm_drop 40 xm_m79.2.2.2.2.2.2.2.2) = true by rw [xk_e79]; rfl))
theorem xk_p80_0 : xm_okP xm_m80 40 0 = true := by decide +kernel
theorem xk_e80 : xm_drop 40 xm_m80.2.2.2.2.2.2.2.2 = [] := by decide +kernel
theorem xk_ok80 : xm_okM xm_m80 = true := xl_okM (by decide +kernel) (by decide +kernel) (xl_okP (r := xm_m80) 40 0 xk_p80_0 (show xm_okC xm_m80.1 (decide (xm_m80.2.1.name = "<init>")) xm_m80.2.2.1 xm_m80.2.2.2.2.2.2.2.2 (xm_drop 40 xm_m80.2.2.2.2.2.2.2.2) = true by rw [xk_e80]; rfl))
theorem xk_p81_0 : xm_okP xm_m81 40 0 = true := by decide +kernel
theorem xk_e81 : xm_drop 40 xm_m81.2.2.2.2.2.2.2.2 = [] := by decide +kernel
theorem xk_ok81 : xm_okM xm_m81 = true := xl_okM (by decide +kernel) (by decide +kernel) (xl_okP (r := xm_m81) 40 0 xk_p81_0 (show xm_okC xm_m81.1 (decide (xm_m81.2.1.name = "<init>")) xm_m81.2.2.1 xm_m81.2.2.2.2.2.2.2.2 (xm_drop 40 xm_m81.2.2.2.2.2.2.2.2) = true by rw [xk_e81]; rfl))
theorem xk_p82_0 : xm_okP xm_m82 40 0 = true := by decide +kernel
theorem xk_p82_40 : xm_okP xm_m82 40 40 = true := by decide +kernel
theorem xk_p82_80 : xm_okP xm_m82 40 80 = true := by decide +kernel
theorem xk_p82_120 : xm_okP xm_m82 40 120 = true := by decide +kernel
theorem xk_p82_160 : xm_okP xm_m82 40 160 = true := by decide +kernel
theorem xk_e82 : xm_drop 200 xm_m82.2.2.2.2.2.2.2.2 = [] := by decide +kernel
theorem xk_ok82 : xm_okM xm_m82 = true := xl_okM (by decide +kernel) (by decide +kernel) (xl_okP (r := xm_m82) 40 0 xk_p82_0 (xl_okP (r := xm_m82) 40 40 xk_p82_40 (xl_okP (r := xm_m82) 40 80 xk_p82_80 (xl_okP (r := xm_m82) 40 120 xk_p82_120 (xl_okP (r := xm_m82) 40 160 xk_p82_160 (show xm_okC xm_m82.1 (decide (xm_m82.2.1.name = "<init>")) xm_m82.2.2.1 xm_m82.2.2.2.2.2.2.2.2 (xm_drop 200 xm_m82.2.2.2.2.2.2.2.2) = true by rw [xk_e82]; rfl))))))
theorem xk_p83_0 : xm_okP xm_m83 40 0 = true := by decide +kernel
theorem xk_p83_40 : xm_okP xm_m83 40 40 = true := by decide +kernel
theorem xk_e83 : xm_drop 80 xm_m83.2.2.2.2.2.2.2.2 = [] := by decide +kernel
theorem xk_ok83 : xm_okM xm_m83 = true := xl_okM (by decide +kernel) (by decide +kernel) (xl_okP (r := xm_m83) 40 0 xk_p83_0 (xl_okP (r := xm_m83) 40 40 xk_p83_40 (show xm_okC xm_m83.1 (decide (xm_m83.2.1.name = "<init>")) xm_m83.2.2.1 xm_m83.2.2.2.2.2.2.2.2 (xm_drop 80 xm_m83.2.2.2.2.2.2.2.2) = true by rw [xk_e83]; rfl)))
theorem xk_p84_0 : xm_okP xm_m84 40 0 = true := by decide +kernel
theorem xk_e84 : xm_drop 40 xm_m84.2.2.2.2.2.2.2.2 = [] := by decide +kernel
theorem xk_ok84 : xm_okM xm_m84 = true := xl_okM (by decide +kernel) (by decide +kernel) (xl_okP (r := xm_m84) 40 0 xk_p84_0 (show xm_okC xm_m84.1 (decide (xm_m84.2.1.name = "<init>")) xm_m84.2.2.1 xm_m84.2.2.2.2.2.2.2.2 (xm_drop 40 xm_m84.2.2.2.2.2.2.2.2) = true by rw [xk_e84]; rfl))
theorem xk_p85_0 : xm_okP xm_m85 40 0 = true := by decide +kernel
theorem xk_e85 : xm_drop 40 xm_m85.2.2.2.2.2.2.2.2 = [] := by decide +kernel
theorem xk_ok85 : xm_okM xm_m85 = true := xl_okM (by decide +kernel) (by decide +kernel) (xl_okP (r := xm_m85) 40 0 xk_p85_0 (show xm_okC xm_m85.1 (decide (xm_m85.2.1.name = "<init>")) xm_m85.2.2.1 xm_m85.2.2.2.2.2.2.2.2 (xm_drop 40 xm_m85.2.2.2.2.2.2.2.2) = true by rw [xk_e85]; rfl))
theorem xk_p86_0 : xm_okP xm_m86 40 0 = true := by decide +kernel
theorem xk_e86 : xm_drop 40 xm_m86.2.2.2.2.2.2.2.2 = [] := by decide +kernel
theorem xk_ok86 : xm_okM xm_m86 = true := xl_okM (by decide +kernel) (by decide +kernel) (xl_okP (r := xm_m86) 40 0 xk_p86_0 (show xm_okC xm_m86.1 (decide (xm_m86.2.1.name = "<init>")) xm_m86.2.2.1 xm_m86.2.2.2.2.2.2.2.2 (xm_drop 40 xm_m86.2.2.2.2.2.2.2.2) = true by rw [xk_e86]; rfl))
theorem xk_p87_0 : xm_okP xm_m87 40 0 = true := by decide +kernel
theorem xk_p87_40 : xm_okP xm_m87 40 40 = true := by decide +kernel
theorem xk_e87 : xm_drop 80 xm_m87.2.2.2.2.2.2.2.2 = [] := by decide +kernel
theorem xk_ok87 : xm_okM xm_m87 = true := xl_okM (by decide +kernel) (by decide +kernel) (xl_okP (r := xm_m87) 40 0 xk_p87_0 (xl_okP (r := xm_m87) 40 40 xk_p87_40 (show xm_okC xm_m87.1 (decide (xm_m87.2.1.name = "<init>")) xm_m87.2.2.1 xm_m87.2.2.2.2.2.2.2.2 (xm_drop 80 xm_m87.2.2.2.2.2.2.2.2) = true by rw [xk_e87]; rfl)))
theorem xk_p88_0 : xm_okP xm_m88 40 0 = true := by decide +kernel
theorem xk_e88 : xm_drop 40 xm_m88.2.2.2.2.2.2.2.2 = [] := by decide +kernel
theorem xk_ok88 : xm_okM xm_m88 = true := xl_okM (by decide +kernel) (by decide +kernel) (xl_okP (r := xm_m88) 40 0 xk_p88_0 (show xm_okC xm_m88.1 (decide (xm_m88.2.1.name = "<init>")) xm_m88.2.2.1 xm_m88.2.2.2.2.2.2.2.2 (xm_drop 40 xm_m88.2.2.2.2.2.2.2.2) = true by rw [xk_e88]; rfl))
theorem xk_p89_0 : xm_okP xm_m89 40 0 = true := by decide +kernel
theorem xk_e89 : xm_drop 40 xm_m89.2.2.2.2.2.2.2.2 = [] := by decide +kernel
theorem xk_ok89 : xm_okM xm_m89 = true := xl_okM (by decide +kernel) (by decide +kernel) (xl_okP (r := xm_m89) 40 0 xk_p89_0 (show xm_okC xm_m89.1 (decide (xm_m89.2.1.name = "<init>")) xm_m89.2.2.1 xm_m89.2.2.2.2.2.2.2.2 (xm_drop 40 xm_m89.2.2.2.2.2.2.2.2) = true by rw [xk_e89]; rfl))
theorem xk_p90_0 : xm_okP xm_m90 40 0 = true := by decide +kernel
theorem xk_e90 : xm_drop 40 xm_m90.2.2.2.2.2.2.2.2 = [] := by decide +kernel
theorem xk_ok90 : xm_okM xm_m90 = true := xl_okM (by decide +kernel) (by decide +kernel) (xl_okP (r := xm_m90) 40 0 xk_p90_0 (show xm_okC xm_m90.1 (decide (xm_m90.2.1.name = "<init>")) xm_m90.2.2.1 xm_m90.2.2.2.2.2.2.2.2 (xm_drop 40 xm_m90.2.2.2.2.2.2.2.2) = true by rw [xk_e90]; rfl))
theorem xk_p91_0 : xm_okP xm_m91 40 0 = true := by decide +kernel
theorem xk_e91 : xm_drop 40 xm_m91.2.2.2.2.2.2.2.2 = [] := by decide +kernel
theorem xk_ok91 : xm_okM xm_m91 = true := xl_okM (by decide +kernel) (by decide +kernel) (xl_okP (r := xm_m91) 40 0 xk_p91_0 (show xm_okC xm_m91.1 (decide (xm_m91.2.1.name = "<init>")) xm_m91.2.2.1 xm_m91.2.2.2.2.2.2.2.2 (xm_drop 40 xm_m91.2.2.2.2.2.2.2.2) = true by rw [xk_e91]; rfl))
theorem xk_p92_0 : xm_okP xm_m92 40 0 = true := by decide +kernel
theorem xk_e92 : xm_drop 40 xm_m92.2.2.2.2.2.2.2.2 = [] := by decide +kernel
theorem xk_ok92 : xm_okM xm_m92 = true := xl_okM (by decide +kernel) (by decide +kernel) (xl_okP (r := xm_m92) 40 0 xk_p92_0 (show xm_okC xm_m92.1 (decide (xm_m92.2.1.name = "<init>")) xm_m92.2.2.1 xm_m92.2.2.2.2.2.2.2.2 (xm_drop 40 xm_m92.2.2.2.2.2.2.2.2) = true by rw [xk_e92]; rfl))
theorem xk_p93_0 : xm_okP xm_m93 40 0 = true := by decide +kernel
theorem xk_p93_40 : xm_okP xm_m93 40 40 = true := by decide +kernel
theorem xk_e93 : xm_drop 80 xm_m93.2.2.2.2.2.2.2.2 = [] := by decide +kernel
theorem xk_ok93 : xm_okM xm_m93 = true := xl_okM (by decide +kernel) (by decide +kernel) (xl_okP (r := xm_m93) 40 0 xk_p93_0 (xl_okP (r := xm_m93) 40 40 xk_p93_40 (show xm_okC xm_m93.1 (decide (xm_m93.2.1.name = "<init>")) xm_m93.2.2.1 xm_m93.2.2.2.2.2.2.2.2 (xm_drop 80 xm_m93.2.2.2.2.2.2.2.2) = true by rw [xk_e93]; rfl)))
theorem xk_p94_0 : xm_okP xm_m94 40 0 = true := by decide +kernel
theorem xk_e94 : xm_drop 40 xm_m94.2.2.2.2.2.2.2.2 = [] := by decide +kernel
theorem xk_ok94 : xm_okM xm_m94 = true := xl_okM (by decide +kernel) (by decide +kernel) (xl_okP (r := xm_m94) 40 0 xk_p94_0 (show xm_okC xm_m94.1 (decide (xm_m94.2.1.name = "<init>")) xm_m94.2.2.1 xm_m94.2.2.2.2.2.2.2.2 (xm_drop 40 xm_m94.2.2.2.2.2.2.2.2) = true by rw [xk_e94]; rfl))
theorem xk_p95_0 : xm_okP xm_m95 40 0 = true := by decide +kernel
theorem xk_e95 : xm_drop 40 xm_m95.2.2.2.2.2.2.2.2 = [] := by decide +kernel
theorem xk_ok95 : xm_okM xm_m95 = true := xl_okM (by decide +kernel) (by decide +kernel) (xl_okP (r := xm_m95) 40 0 xk_p95_0 (show xm_okC xm_m95.1 (decide (xm_m95.2.1.name = "<init>")) xm_m95.2.2.1 xm_m95.2.2.2.2.2.2.2.2 (xm_drop 40 xm_m95.2.2.2.2.2.2.2.2) = true by rw [xk_e95]; rfl))
theorem xk_p96_0 : xm_okP xm_m96 40 0 = true := by decide +kernel
theorem xk_e96 : xm_drop 40 xm_m96.2.2.2.2.2.2.2.2 = [] := by decide +kernel
theorem xk_ok96 : xm_okM xm_m96 = true := xl_okM (by decide +kernel) (by decide +kernel) (xl_okP (r := xm_m96) 40 0 xk_p96_0 (show xm_okC xm_m96.1 (decide (xm_m96.2.1.name = "<init>")) xm_m96.2.2.1 xm_m96.2.2.2.2.2.2.2.2 (xm_drop 40 xm_m96.2.2.2.2.2.2.2.2) = true by rw [xk_e96]; rfl))
theorem xk_p97_0 : xm_okP xm_m97 40 0 = true := by decide +kernel
theorem xk_p97_40 : xm_okP xm_m97 40 40 = true := by decide +kernel
theorem xk_e97 : xm_drop 80 xm_m97.2.2.2.2.2.2.2.2 = [] := by decide +kernel
theorem xk_ok97 : xm_okM xm_m97 = true := xl_okM (by decide +kernel) (by decide +kernel) (xl_okP (r := xm_m97) 40 0 xk_p97_0 (xl_okP (r := xm_m97) 40 40 xk_p97_40 (show xm_okC xm_m97.1 (decide (xm_m97.2.1.name = "<init>")) xm_m97.2.2.1 xm_m97.2.2.2.2.2.2.2.2 (xm_drop 80 xm_m97.2.2.2.2.2.2.2.2) = true by rw [xk_e97]; rfl)))
theorem xk_p98_0 : xm_okP xm_m98 40 0 = true := by decide +kernel
theorem xk_p98_40 : xm_okP xm_m98 40 40 = true := by decide +kernel
theorem xk_e98 : xm_drop 80 xm_m98.2.2.2.2.2.2.2.2 = [] := by decide +kernel
theorem xk_ok98 : xm_okM xm_m98 = true := xl_okM (by decide +kernel) (by decide +kernel) (xl_okP (r := xm_m98) 40 0 xk_p98_0 (xl_okP (r := xm_m98) 40 40 xk_p98_40 (show xm_okC xm_m98.1 (decide (xm_m98.2.1.name = "<init>")) xm_m98.2.2.1 xm_m98.2.2.2.2.2.2.2.2 (xm_drop 80 xm_m98.2.2.2.2.2.2.2.2) = true by rw [xk_e98]; rfl)))
theorem xk_p99_0 : xm_okP xm_m99 40 0 = true := by decide +kernel
theorem xk_e99 : xm_drop 40 xm_m99.2.2.2.2.2.2.2.2 = [] := by decide +kernel
theorem xk_ok99 : xm_okM xm_m99 = true := xl_okM (by decide +kernel) (by decide +kernel) (xl_okP (r := xm_m99) 40 0 xk_p99_0 (show xm_okC xm_m99.1 (decide (xm_m99.2.1.name = "<init>")) xm_m99.2.2.1 xm_m99.2.2.2.2.2.2.2.2 (xm_drop 40 xm_m99.2.2.2.2.2.2.2.2) = true by rw [xk_e99]; rfl))
theorem xk_p100_0 : xm_okP xm_m100 40 0 = true := by decide +kernel
theorem xk_e100 : xm_drop 40 xm_m100.2.2.2.2.2.2.2.2 = [] := by decide +kernel
theorem xk_ok100 : xm_okM xm_m100 = true := xl_okM (by decide +kernel) (by decide +kernel) (xl_okP (r := xm_m100) 40 0 xk_p100_0 (show xm_okC xm_m100.1 (decide (xm_m100.2.1.name = "<init>")) xm_m100.2.2.1 xm_m100.2.2.2.2.2.2.2.2 (xm_drop 40 xm_m100.2.2.2.2.2.2.2.2) = true by rw [xk_e100]; rfl))
theorem xk_p101_0 : xm_okP xm_m101 40 0 = true := by decide +kernel
theorem xk_e101 : xm_drop 40 xm_m101.2.2.2.2.2.2.2.2 = [] := by decide +kernel
theorem xk_ok101 : xm_okM xm_m101 = true := xl_okM (by decide +kernel) (by decide +kernel) (xl_okP (r := xm_m101) 40 0 xk_p101_0 (show xm_okC xm_m101.1 (decide (xm_m101.2.1.name = "<init>")) xm_m101.2.2.1 xm_m101.2.2.2.2.2.2.2.2 (xm_drop 40 xm_m101.2.2.2.2.2.2.2.2) = true by rw [xk_e101]; rfl))
theorem xk_p102_0 : xm_okP xm_m102 40 0 = true := by decide +kernel
theorem xk_e102 : xm_drop 40 xm_m102.2.2.2.2.2.2.2.2 = [] := by decide +kernel
theorem xk_ok102 : xm_okM xm_m102 = true := xl_okM (by decide +kernel) (by decide +kernel) (xl_okP (r := xm_m102) 40 0 xk_p102_0 (show xm_okC xm_m102.1 (decide (xm_m102.2.1.name = "<init>")) xm_m102.2.2.1 xm_m102.2.2.2.2.2.2.2.2 (xm_drop 40 xm_m102.2.2.2.2.2.2.2.2) = true by rw [xk_e102]; rfl))
theorem xk_p103_0 : xm_okP xm_m103 40 0 = true := by decide +kernel
theorem xk_e103 : xm_drop 40 xm_m103.2.2.2.2.2.2.2.2 = [] := by decide +kernel
theorem xk_ok103 : xm_okM xm_m103 = true := xl_okM (by decide +kernel) (by decide +kernel) (xl_okP (r := xm_m103) 40 0 xk_p103_0 (show xm_okC xm_m103.1 (decide (xm_m103.2.1.name = "<init>")) xm_m103.2.2.1 xm_m103.2.2.2.2.2.2.2.2 (xm_drop 40 xm_m103.2.2.2.2.2.2.2.2) = true by rw [xk_e103]; rfl))
theorem xk_p104_0 : xm_okP xm_m104 40 0 = true := by decide +kernel
theorem xk_e104 : xm_drop 40 xm_m104.2.2.2.2.2.2.2.2 = [] := by decide +kernel
theorem xk_ok104 : xm_okM xm_m104 = true := xl_okM (by decide +kernel) (by decide +kernel) (xl_okP (r := xm_m104) 40 0 xk_p104_0 (show xm_okC xm_m104.1 (decide (xm_m104.2.1.name = "<init>")) xm_m104.2.2.1 xm_m104.2.2.2.2.2.2.2.2 (xm_drop 40 xm_m104.2.2.2.2.2.2.2.2) = true by rw [xk_e104]; rfl))
theorem xk_p105_0 : xm_okP xm_m105 40 0 = true := by decide +kernel
theorem xk_e105 : xm_drop 40 xm_m105.2.2.2.2.2.2.2.2 = [] := by decide +kernel
theorem xk_ok105 : xm_okM xm_m105 = true := xl_okM (by decide +kernel) (by decide +kernel) (xl_okP (r := xm_m105) 40 0 xk_p105_0 (show xm_okC xm_m105.1 (decide (xm_m105.2.1.name = "<init>")) xm_m105.2.2.1 xm_m105.2.2.2.2.2.2.2.2 (xm_drop 40 xm_m105.2.2.2.2.2.2.2.2) = true by rw [xk_e105]; rfl))
theorem xk_p106_0 : xm_okP xm_m106 40 0 = true := by decide +kernel
theorem xk_p106_40 : xm_okP xm_m106 40 40 = true := by decide +kernel
theorem xk_e106 : xm_drop 80 xm_m106.2.2.2.2.2.2.2.2 = [] := by decide +kernel
theorem xk_ok106 : xm_okM xm_m106 = true := xl_okM (by decide +kernel) (by decide +kernel) (xl_okP (r := xm_m106) 40 0 xk_p106_0 (xl_okP (r := xm_m106) 40 40 xk_p106_40 (show xm_okC xm_m106.1 (decide (xm_m106.2.1.name = "<init>")) xm_m106.2.2.1 xm_m106.2.2.2.2.2.2.2.2 (xm_drop 80 xm_m106.2.2.2.2.2.2.2.2) = true by rw [xk_e106]; rfl)))
theorem xk_p107_0 : xm_okP xm_m107 40 0 = true := by decide +kernel
theorem xk_p107_40 : xm_okP xm_m107 40 40 = true := by decide +kernel
theorem xk_e107 : xm_drop 80 xm_m107.2.2.2.2.2.2.2.2 = [] := by decide +kernel
theorem xk_ok107 : xm_okM xm_m107 = true := xl_okM (by decide +kernel) (by decide +kernel) (xl_okP (r := xm_m107) 40 0 xk_p107_0 (xl_okP (r := xm_m107) 40 40 xk_p107_40 (show xm_okC xm_m107.1 (decide (xm_m107.2.1.name = "<init>")) xm_m107.2.2.1 xm_m107.2.2.2.2.2.2.2.2 (xm_drop 80 xm_m107.2.2.2.2.2.2.2.2) = true by rw [xk_e107]; rfl)))
theorem xk_p108_0 : xm_okP xm_m108 40 0 = true := by decide +kernel
theorem xk_e108 : xm_drop 40 xm_m108.2.2.2.2.2.2.2.2 = [] := by decide +kernel
theorem xk_ok108 : xm_okM xm_m108 = true := xl_okM (by decide +kernel) (by decide +kernel) (xl_okP (r := xm_m108) 40 0 xk_p108_0 (show xm_okC xm_m108.1 (decide (xm_m108.2.1.name = "<init>")) xm_m108.2.2.1 xm_m108.2.2.2.2.2.2.2.2 (xm_drop 40 xm_m108.2.2.2.2.2.2.2.2) = true by rw [xk_e108]; rfl))
theorem xk_p109_0 : xm_okP xm_m109 40 0 = true := by decide +kernel
theorem xk_e109 : xm_drop 40 xm_m109.2.2.2.2.2.2.2.2 = [] := by decide +kernel
theorem xk_ok109 : xm_okM xm_m109 = true := xl_okM (by decide +kernel) (by decide +kernel) (xl_okP (r := xm_m109) 40 0 xk_p109_0 (show xm_okC xm_m109.1 (decide (xm_m109.2.1.name = "<init>")) xm_m109.2.2.1 xm_m109.2.2.2.2.2.2.2.2 (xm_drop 40 xm_m109.2.2.2.2.2.2.2.2) = true by rw [xk_e109]; rfl))
theorem xk_p110_0 : xm_okP xm_m110 40 0 = true := by decide +kernel
theorem xk_e110 : xm_drop 40 xm_m110.2.2.2.2.2.2.2.2 = [] := by decide +kernel
theorem xk_ok110 : xm_okM xm_m110 = true := xl_okM (by decide +kernel) (by decide +kernel) (xl_okP (r := xm_m110) 40 0 xk_p110_0 (show xm_okC xm_m110.1 (decide (xm_m110.2.1.name = "<init>")) xm_m110.2.2.1 xm_m110.2.2.2.2.2.2.2.2 (xm_drop 40 xm_m110.2.2.2.2.2.2.2.2) = true by rw [xk_e110]; rfl))
theorem xk_p111_0 : xm_okP xm_m111 40 0 = true := by decide +kernel
theorem xk_e111 : xm_drop 40 xm_m111.2.2.2.2.2.2.2.2 = [] := by decide +kernel
theorem xk_ok111 : xm_okM xm_m111 = true := xl_okM (by decide +kernel) (by decide +kernel) (xl_okP (r := xm_m111) 40 0 xk_p111_0 (show xm_okC xm_m111.1 (decide (xm_m111.2.1.name = "<init>")) xm_m111.2.2.1 xm_m111.2.2.2.2.2.2.2.2 (xm_drop 40 xm_m111.2.2.2.2.2.2.2.2) = true by rw [xk_e111]; rfl))
end
section
theorem xk_p112_0 : xm_okP xm_m112 40 0 = true := by decide +kernel
theorem xk_p112_40 : xm_okP xm_m112 40 40 = true := by decide +kernel
theorem xk_e112 : xm_drop 80 xm_m112.2.2.2.2.2.2.2.2 = [] := by decide +kernel
theorem xk_ok112 : xm_okM xm_m112 = true := xl_okM (by decide +kernel) (by decide +kernel) (xl_okP (r := xm_m112) 40 0 xk_p112_0 (xl_okP (r := xm_m112) 40 40 xk_p112_40 (show xm_okC xm_m112.1 (decide (xm_m112.2.1.name = "<init>")) xm_m112.2.2.1 xm_m112.2.2.2.2.2.2.2.2 (xm_drop 80 xm_m112.2.2.2.2.2.2.2.2) = true by rw [xk_e112]; rfl)))
theorem xk_p113_0 : xm_okP xm_m113 40 0 = true := by decide +kernel
theorem xk_e113 : xm_drop 40 xm_m113.2.2.2.2.2.2.2.2 = [] := by decide +kernel
theorem xk_ok113 : xm_okM xm_m113 = true := xl_okM (by decide +kernel) (by decide +kernel) (xl_okP (r := xm_m113) 40 0 xk_p113_0 (show xm_okC xm_m113.1 (decide (xm_m113.2.1.name = "<init>")) xm_m113.2.2.1 xm_m113.2.2.2.2.2.2.2.2 (xm_drop 40 xm_m113.2.2.2.2.2.2.2.2) = true by rw [xk_e113]; rfl))
theorem xk_p114_0 : xm_okP xm_m114 40 0 = true := by decide +kernel
theorem xk_p114_40 : xm_okP xm_m114 40 40 = true := by decide +kernel
theorem xk_e114 : xm_drop 80 xm_m114.2.2.2.2.2.2.2.2 = [] := by decide +kernel
theorem xk_ok114 : xm_okM xm_m114 = true := xl_okM (by decide +kernel) (by decide +kernel) (xl_okP (r := xm_m114) 40 0 xk_p114_0 (xl_okP (r := xm_m114) 40 40 xk_p114_40 (show xm_okC xm_m114.1 (decide (xm_m114.2.1.name = "<init>")) xm_m114.2.2.1 xm_m114.2.2.2.2.2.2.2.2 (xm_drop 80 xm_m114.2.2.2.2.2.2.2.2) = true by rw [xk_e114]; rfl)))
theorem xk_p115_0 : xm_okP xm_m115 40 0 = true := by decide +kernel
theorem xk_p115_40 : xm_okP xm_m115 40 40 = true := by decide +kernel
theorem xk_e115 : xm_drop 80 xm_m115.2.2.2.2.2.2.2.2 = [] := by decide +kernel
theorem xk_ok115 : xm_okM xm_m115 = true := xl_okM (by decide +kernel) (by decide +kernel) (xl_okP (r := xm_m115) 40 0 xk_p115_0 (xl_okP (r := xm_m115) 40 40 xk_p115_40 (show xm_okC xm_m115.1 (decide (xm_m115.2.1.name = "<init>")) xm_m115.2.2.1 xm_m115.2.2.2.2.2.2.2.2 (xm_drop 80 xm_m115.2.2.2.2.2.2.2.2) = true by rw [xk_e115]; rfl)))
theorem xk_p116_0 : xm_okP xm_m116 40 0 = true := by decide +kernel
theorem xk_e116 : xm_drop 40 xm_m116.2.2.2.2.2.2.2.2 = [] := by decide +kernel
theorem xk_ok116 : xm_okM xm_m116 = true := xl_okM (by decide +kernel) (by decide +kernel) (xl_okP (r := xm_m116) 40 0 xk_p116_0 (show xm_okC xm_m116.1 (decide (xm_m116.2.1.name = "<init>")) xm_m116.2.2.1 xm_m116.2.2.2.2.2.2.2.2 (xm_drop 40 xm_m116.2.2.2.2.2.2.2.2) = true by rw [xk_e116]; rfl))
theorem xk_p117_0 : xm_okP xm_m117 40 0 = true := by decide +kernel
theorem xk_e117 : xm_drop 40 xm_m117.2.2.2.2.2.2.2.2 = [] := by decide +kernel
theorem xk_ok117 : xm_okM xm_m117 = true := xl_okM (by decide +kernel) (by decide +kernel) (xl_okP (r := xm_m117) 40 0 xk_p117_0 (show xm_okC xm_m117.1 (decide (xm_m117.2.1.name = "<init>")) xm_m117.2.2.1 xm_m117.2.2.2.2.2.2.2.2 (xm_drop 40 xm_m117.2.2.2.2.2.2.2.2) = true by rw [xk_e117]; rfl))
theorem xk_p118_0 : xm_okP xm_m118 40 0 = true := by decide +kernel
theorem xk_e118 : xm_drop 40 xm_m118.2.2.2.2.2.2.2.2 = [] := by decide +kernel
theorem xk_ok118 : xm_okM xm_m118 = true := xl_okM (by decide +kernel) (by decide +kernel) (xl_okP (r := xm_m118) 40 0 xk_p118_0 (show xm_okC xm_m118.1 (decide (xm_m118.2.1.name = "<init>")) xm_m118.2.2.1 xm_m118.2.2.2.2.2.2.2.2 (xm_drop 40 xm_m118.2.2.2.2.2.2.2.2) = true by rw [xk_e118]; rfl))
theorem xk_p119_0 : xm_okP xm_m119 40 0 = true := by decide +kernel
theorem xk_e119 : xm_drop 40 xm_m119.2.2.2.2.2.2.2.2 = [] := by decide +kernel
theorem xk_ok119 : xm_okM xm_m119 = true := xl_okM (by decide +kernel) (by decide +kernel) (xl_okP (r := xm_m119) 40 0 xk_p119_0 (show xm_okC xm_m119.1 (decide (xm_m119.2.1.name = "<init>")) xm_m119.2.2.1 xm_m119.2.2.2.2.2.2.2.2 (xm_drop 40 xm_m119.2.2.2.2.2.2.2.2) = true by rw [xk_e119]; rfl))
theorem xk_p120_0 : xm_okP xm_m120 40 0 = true := by decide +kernel
theorem xk_e120 : xm_drop 40 xm_m120.2.2.2.2.2.2.2.2 = [] := by decide +kernel
theorem xk_ok120 : xm_okM xm_m120 = true := xl_okM (by decide +kernel) (by decide +kernel) (xl_okP (r := xm_m120) 40 0 xk_p120_0 (show xm_okC xm_m120.1 (decide (xm_m120.2.1.name = "<init>")) xm_m120.2.2.1 xm_m120.2.2.2.2.2.2.2.2 (xm_drop 40 xm_m120.2.2.2.2.2.2.2.2) = true by rw [xk_e120]; rfl))
theorem xk_p121_0 : xm_okP xm_m121 40 0 = true := by decide +kernel
theorem xk_e121 : xm_drop 40 xm_m121.2.2.2.2.2.2.2.2 = [] := by decide +kernel
theorem xk_ok121 : xm_okM xm_m121 = true := xl_okM (by decide +kernel) (by decide +kernel) (xl_okP (r := xm_m121) 40 0 xk_p121_0 (show xm_okC xm_m121.1 (decide (xm_m121.2.1.name = "<init>")) xm_m121.2.2.1 xm_m121.2.2.2.2.2.2.2.2 (xm_drop 40 xm_m121.2.2.2.2.2.2.2.2) = true by rw [xk_e121]; rfl))
theorem xk_p122_0 : xm_okP xm_m122 40 0 = true := by decide +kernel
theorem xk_e122 : xm_drop 40 xm_m122.2.2.2.2.2.2.2.2 = [] := by decide +kernel
theorem xk_ok122 : xm_okM xm_m122 = true := xl_okM (by decide +kernel) (by decide +kernel) (xl_okP (r := xm_m122) 40 0 xk_p122_0 (show xm_okC xm_m122.1 (decide (xm_m122.2.1.name = "<init>")) xm_m122.2.2.1 xm_m122.2.2.2.2.2.2.2.2 (xm_drop 40 xm_m122.2.2.2.2.2.2.2.2) = true by rw [xk_e122]; rfl))
theorem xk_p123_0 : xm_okP xm_m123 40 0 = true := by decide +kernel
theorem xk_e123 : xm_drop 40 xm_m123.2.2.2.2.2.2.2.2 = [] := by decide +kernel
theorem xk_ok123 : xm_okM xm_m123 = true := xl_okM (by decide +kernel) (by decide +kernel) (xl_okP (r := xm_m123) 40 0 xk_p123_0 (show xm_okC xm_m123.1 (decide (xm_m123.2.1.name = "<init>")) xm_m123.2.2.1 xm_m123.2.2.2.2.2.2.2.2 (xm_drop 40 xm_m123.2.2.2.2.2.2.2.2) = true by rw [xk_e123]; rfl))
theorem xk_p124_0 : xm_okP xm_m124 40 0 = true := by decide +kernel
theorem xk_p124_40 : xm_okP xm_m124 40 40 = true := by decide +kernel
theorem xk_p124_80 : xm_okP xm_m124 40 80 = true := by decide +kernel
theorem xk_e124 : xm_drop 120 xm_m124.2.2.2.2.2.2.2.2 = [] := by decide +kernel
theorem xk_ok124 : xm_okM xm_m124 = true := xl_okM (by decide +kernel) (by decide +kernel) (xl_okP (r := xm_m124) 40 0 xk_p124_0 (xl_okP (r := xm_m124) 40 40 xk_p124_40 (xl_okP (r := xm_m124) 40 80 xk_p124_80 (show xm_okC xm_m124.1 (decide (xm_m124.2.1.name = "<init>")) xm_m124.2.2.1 xm_m124.2.2.2.2.2.2.2.2 (xm_drop 120 xm_m124.2.2.2.2.2.2.2.2) = true by rw [xk_e124]; rfl))))
theorem xk_p125_0 : xm_okP xm_m125 40 0 = true := by decide +kernel
theorem xk_e125 : xm_drop 40 xm_m125.2.2.2.2.2.2.2.2 = [] := by decide +kernel
theorem xk_ok125 : xm_okM xm_m125 = true := xl_okM (by decide +kernel) (by decide +kernel) (xl_okP (r := xm_m125) 40 0 xk_p125_0 (show xm_okC xm_m125.1 (decide (xm_m125.2.1.name = "<init>")) xm_m125.2.2.1 xm_m125.2.2.2.2.2.2.2.2 (xm_drop 40 xm_m125.2.2.2.2.2.2.2.2) = true by rw [xk_e125]; rfl))
theorem xk_p126_0 : xm_okP xm_m126 40 0 = true := by decide +kernel
theorem xk_e126 : xm_drop 40 xm_m126.2.2.2.2.2.2.2.2 = [] := by decide +kernel
theorem xk_ok126 : xm_okM xm_m126 = true := xl_okM (by decide +kernel) (by decide +kernel) (xl_okP (r := xm_m126) 40 0 xk_p126_0 (show xm_okC xm_m126.1 (decide (xm_m126.2.1.name = "<init>")) xm_m126.2.2.1 xm_m126.2.2.2.2.2.2.2.2 (xm_drop 40 xm_m126.2.2.2.2.2.2.2.2) = true by rw [xk_e126]; rfl))
theorem xk_p127_0 : xm_okP xm_m127 40 0 = true := by decide +kernel
theorem xk_e127 : xm_drop 40 xm_m127.2.2.2.2.2.2.2.2 = [] := by decide +kernel
theorem xk_ok127 : xm_okM xm_m127 = true := xl_okM (by decide +kernel) (by decide +kernel) (xl_okP (r := xm_m127) 40 0 xk_p127_0 (show xm_okC xm_m127.1 (decide (xm_m127.2.1.name = "<init>")) xm_m127.2.2.1 xm_m127.2.2.2.2.2.2.2.2 (xm_drop 40 xm_m127.2.2.2.2.2.2.2.2) = true by rw [xk_e127]; rfl))
theorem xk_p128_0 : xm_okP xm_m128 40 0 = true := by decide +kernel
theorem xk_e128 : xm_drop 40 xm_m128.2.2.2.2.2.2.2.2 = [] := by decide +kernel
theorem xk_ok128 : xm_okM xm_m128 = true := xl_okM (by decide +kernel) (by decide +kernel) (xl_okP (r := xm_m128) 40 0 xk_p128_0 (show xm_okC xm_m128.1 (decide (xm_m128.2.1.name = "<init>")) xm_m128.2.2.1 xm_m128.2.2.2.2.2.2.2.2 (xm_drop 40 xm_m128.2.2.2.2.2.2.2.2) = true by rw [xk_e128]; rfl))
theorem xk_p129_0 : xm_okP xm_m129 40 0 = true := by decide +kernel
theorem xk_e129 : xm_drop 40 xm_m129.2.2.2.2.2.2.2.2 = [] := by decide +kernel
theorem xk_ok129 : xm_okM xm_m129 = true := xl_okM (by decide +kernel) (by decide +kernel) (xl_okP (r := xm_m129) 40 0 xk_p129_0 (show xm_okC xm_m129.1 (decide (xm_m129.2.1.name = "<init>")) xm_m129.2.2.1 xm_m129.2.2.2.2.2.2.2.2 (xm_drop 40 xm_m129.2.2.2.2.2.2.2.2) = true by rw [xk_e129]; rfl))
theorem xk_p130_0 : xm_okP xm_m130 40 0 = true := by decide +kernel
theorem xk_e130 : xm_drop 40 xm_m130.2.2.2.2.2.2.2.2 = [] := by decide +kernel
theorem xk_ok130 : xm_okM xm_m130 = true := xl_okM (by decide +kernel) (by decide +kernel) (xl_okP (r := xm_m130) 40 0 xk_p130_0 (show xm_okC xm_m130.1 (decide (xm_m130.2.1.name = "<init>")) xm_m130.2.2.1 xm_m130.2.2.2.2.2.2.2.2 (xm_drop 40 xm_m130.2.2.2.2.2.2.2.2) = true by rw [xk_e130]; rfl))
theorem xk_p131_0 : xm_okP xm_m131 40 0 = true := by decide +kernel
theorem xk_e131 : xm_drop 40 xm_m131.2.2.2.2.2.2.2.2 = [] := by decide +kernel
theorem xk_ok131 : xm_okM xm_m131 = true := xl_okM (by decide +kernel) (by decide +kernel) (xl_okP (r := xm_m131) 40 0 xk_p131_0 (show xm_okC xm_m131.1 (decide (xm_m131.2.1.name = "<init>")) xm_m131.2.2.1 xm_m131.2.2.2.2.2.2.2.2 (xm_drop 40 xm_m131.2.2.2.2.2.2.2.2) = true by rw [xk_e131]; rfl))
theorem xk_p132_0 : xm_okP xm_m132 40 0 = true := by decide +kernel
theorem xk_e132 : xm_drop 40 xm_m132.2.2.2.2.2.2.2.2 = [] := by decide +kernel
theorem xk_ok132 : xm_okM xm_m132 = true := xl_okM (by decide +kernel) (by decide +kernel) (xl_okP (r := xm_m132) 40 0 xk_p132_0 (show xm_okC xm_m132.1 (decide (xm_m132.2.1.name = "<init>")) xm_m132.2.2.1 xm_m132.2.2.2.2.2.2.2.2 (xm_drop 40 xm_m132.2.2.2.2.2.2.2.2) = true by rw [xk_e132]; rfl))
theorem xk_p133_0 : xm_okP xm_m133 40 0 = true := by decide +kernel
theorem xk_e133 : xm_drop 40 xm_m133.2.2.2.2.2.2.2.2 = [] := by decide +kernel
theorem xk_ok133 : xm_okM xm_m133 = true := xl_okM (by decide +kernel) (by decide +kernel) (xl_okP (r := xm_m133) 40 0 xk_p133_0 (show xm_okC xm_m133.1 (decide (xm_m133.2.1.name = "<init>")) xm_m133.2.2.1 xm_m133.2.2.2.2.2.2.2.2 (xm_drop 40 xm_m133.2.2.2.2.2.2.2.2) = true by rw [xk_e133]; rfl))
theorem xk_p134_0 : xm_okP xm_m134 40 0 = true := by decide +kernel
theorem xk_e134 : xm_drop 40 xm_m134.2.2.2.2.2.2.2.2 = [] := by decide +kernel
theorem xk_ok134 : xm_okM xm_m134 = true := xl_okM (by decide +kernel) (by decide +kernel) (xl_okP (r := xm_m134) 40 0 xk_p134_0 (show xm_okC xm_m134.1 (decide (xm_m134.2.1.name = "<init>")) xm_m134.2.2.1 xm_m134.2.2.2.2.2.2.2.2 (xm_drop 40 xm_m134.2.2.2.2.2.2.2.2) = true by rw [xk_e134]; rfl))
theorem xk_p135_0 : xm_okP xm_m135 40 0 = true := by decide +kernel
theorem xk_p135_40 : xm_okP xm_m135 40 40 = true := by decide +kernel
theorem xk_e135 : xm_drop 80 xm_m135.2.2.2.2.2.2.2.2 = [] := by decide +kernel
theorem xk_ok135 : xm_okM xm_m135 = true := xl_okM (by decide +kernel) (by decide +kernel) (xl_okP (r := xm_m135) 40 0 xk_p135_0 (xl_okP (r := xm_m135) 40 40 xk_p135_40 (show xm_okC xm_m135.1 (decide (xm_m135.2.1.name = "<init>")) xm_m135.2.2.1 xm_m135.2.2.2.2.2.2.2.2 (xm_drop 80 xm_m135.2.2.2.2.2.2.2.2) = true by rw [xk_e135]; rfl)))
theorem xk_p136_0 : xm_okP xm_m136 40 0 = true := by decide +kernel
theorem xk_e136 : xm_drop 40 xm_m136.2.2.2.2.2.2.2.2 = [] := by decide +kernel
theorem xk_ok136 : xm_okM xm_m136 = true := xl_okM (by decide +kernel) (by decide +kernel) (xl_okP (r := xm_m136) 40 0 xk_p136_0 (show xm_okC xm_m136.1 (decide (xm_m136.2.1.name = "<init>")) xm_m136.2.2.1 xm_m136.2.2.2.2.2.2.2.2 (xm_drop 40 xm_m136.2.2.2.2.2.2.2.2) = true by rw [xk_e136]; rfl))
theorem xk_p137_0 : xm_okP xm_m137 40 0 = true := by decide +kernel
theorem xk_e137 : xm_drop 40 xm_m137.2.2.2.2.2.2.2.2 = [] := by decide +kernel
theorem xk_ok137 : xm_okM xm_m137 = true := xl_okM (by decide +kernel) (by decide +kernel) (xl_okP (r := xm_m137) 40 0 xk_p137_0 (show xm_okC xm_m137.1 (decide (xm_m137.2.1.name = "<init>")) xm_m137.2.2.1 xm_m137.2.2.2.2.2.2.2.2 (xm_drop 40 xm_m137.2.2.2.2.2.2.2.2) = true by rw [xk_e137]; rfl))
theorem xk_p138_0 : xm_okP xm_m138 40 0 = true := by decide +kernel
theorem xk_p138_40 : xm_okP xm_m138 40 40 = true := by decide +kernel
theorem xk_e138 : xm_drop 80 xm_m138.2.2.2.2.2.2.2.2 = [] := by decide +kernel
theorem xk_ok138 : xm_okM xm_m138 = true := xl_okM (by decide +kernel) (by decide +kernel) (xl_okP (r := xm_m138) 40 0 xk_p138_0 (xl_okP (r := xm_m138) 40 40 xk_p138_40 (show xm_okC xm_m138.1 (decide (xm_m138.2.1.name = "<init>")) xm_m138.2.2.1 xm_m138.2.2.2.2.2.2.2.2 (xm_drop 80 xm_m138.2.2.2.2.2.2.2.2) = true by rw [xk_e138]; rfl)))
theorem xk_p139_0 : xm_okP xm_m139 40 0 = true := by decide +kernel
theorem xk_p139_40 : xm_okP xm_m139 40 40 = true := by decide +kernel
theorem xk_e139 : xm_drop 80 xm_m139.2.2.2.2.2.2.2.2 = [] := by decide +kernel
theorem xk_ok139 : xm_okM xm_m139 = true := xl_okM (by decide +kernel) (by decide +kernel) (xl_okP (r := xm_m139) 40 0 xk_p139_0 (xl_okP (r := xm_m139) 40 40 xk_p139_40 (show xm_okC xm_m139.1 (decide (xm_m139.2.1.name = "<init>")) xm_m139.2.2.1 xm_m139.2.2.2.2.2.2.2.2 (xm_drop 80 xm_m139.2.2.2.2.2.2.2.2) = true by rw [xk_e139]; rfl)))
theorem xk_p140_0 : xm_okP xm_m140 40 0 = true := by decide +kernel
theorem xk_e140 : xm_drop 40 xm_m140.2.2.2.2.2.2.2.2 = [] := by decide +kernel
theorem xk_ok140 : xm_okM xm_m140 = true := xl_okM (by decide +kernel) (by decide +kernel) (xl_okP (r := xm_m140) 40 0 xk_p140_0 (show xm_okC xm_m140.1 (decide (xm_m140.2.1.name = "<init>")) xm_m140.2.2.1 xm_m140.2.2.2.2.2.2.2.2 (xm_drop 40 xm_m140.2.2.2.2.2.2.2.2) = true by rw [xk_e140]; rfl))
theorem xk_p141_0 : xm_okP xm_m141 40 0 = true := by decide +kernel
theorem xk_e141 : xm_drop 40 xm_m141.2.2.2.2.2.2.2.2 = [] := by decide +kernel
theorem xk_ok141 : xm_okM xm_m141 = true := xl_okM (by decide +kernel) (by decide +kernel) (xl_okP (r := xm_m141) 40 0 xk_p141_0 (show xm_okC xm_m141.1 (decide (xm_m141.2.1.name = "<init>")) xm_m141.2.2.1 xm_m141.2.2.2.2.2.2.2.2 (xm_drop 40 xm_m141.2.2.2.2.2.2.2.2) = true by rw [xk_e141]; rfl))
theorem xk_p142_0 : xm_okP xm_m142 40 0 = true := by decide +kernel
theorem xk_e142 : xm_drop 40 xm_m142.2.2.2.2.2.2.2.2 = [] := by decide +kernel
theorem xk_ok142 : xm_okM xm_m142 = true := xl_okM (by decide +kernel) (by decide +kernel) (xl_okP (r := xm_m142) 40 0 xk_p142_0 (show xm_okC xm_m142.1 (decide (xm_m142.2.1.name = "<init>")) xm_m142.2.2.1 xm_m142.2.2.2.2.2.2.2.2 (xm_drop 40 xm_m142.2.2.2.2.2.2.2.2) = true by rw [xk_e142]; rfl))
theorem xk_p143_0 : xm_okP xm_m143 40 0 = true := by decide +kernel
theorem xk_e143 : xm_drop 40 xm_m143.2.2.2.2.2.2.2.2 = [] := by decide +kernel
theorem xk_ok143 : xm_okM xm_m143 = true := xl_okM (by decide +kernel) (by decide +kernel) (xl_okP (r := xm_m143) 40 0 xk_p143_0 (show xm_okC xm_m143.1 (decide (xm_m143.2.1.name = "<init>")) xm_m143.2.2.1 xm_m143.2.2.2.2.2.2.2.2 (xm_drop 40 xm_m143.2.2.2.2.2.2.2.2) = true by rw [xk_e143]; rfl))
theorem xk_p144_0 : xm_okP xm_m144 40 0 = true := by decide +kernel
theorem xk_p144_40 : xm_okP xm_m144 40 40 = true := by decide +kernel
theorem xk_e144 : xm_drop 80 xm_m144.2.2.2.2.2.2.2.2 = [] := by decide +kernel
theorem xk_ok144 : xm_okM xm_m144 = true := xl_okM (by decide +kernel) (by decide +kernel) (xl_okP (r := xm_m144) 40 0 xk_p144_0 (xl_okP (r := xm_m144) 40 40 xk_p144_40 (show xm_okC xm_m144.1 (decide (xm_m144.2.1.name = "<init>")) xm_m144.2.2.1 xm_m144.2.2.2.2.2.2.2.2 (xm_drop 80 xm_m144.2.2.2.2.2.2.2.2) = true by rw [xk_e144]; rfl)))
theorem xk_p145_0 : xm_okP xm_m145 40 0 = true := by decide +kernel
theorem xk_p145_40 : xm_okP xm_m145 40 40 = true := by decide +kernel
theorem xk_e145 : xm_drop 80 xm_m145.2.2.2.2.2.2.2.2 = [] := by decide +kernel
theorem xk_ok145 : xm_okM xm_m145 = true := xl_okM (by decide +kernel) (by decide +kernel) (xl_okP (r := xm_m145) 40 0 xk_p145_0 (xl_okP (r := xm_m145) 40 40 xk_p145_40 (show xm_okC xm_m145.1 (decide (xm_m145.2.1.name = "<init>")) xm_m145.2.2.1 xm_m145.2.2.2.2.2.2.2.2 (xm_drop 80 xm_m145.2.2.2.2.2.2.2.2) = true by rw [xk_e145]; rfl)))
theorem xk_p146_0 : xm_okP xm_m146 40 0 = true := by decide +kernel
theorem xk_p146_40 : xm_okP xm_m146 40 40 = true := by decide +kernel
theorem xk_e146 : xm_drop 80 xm_m146.2.2.2.2.2.2.2.2 = [] := by decide +kernel
theorem xk_ok146 : xm_okM xm_m146 = true := xl_okM (by decide +kernel) (by decide +kernel) (xl_okP (r := xm_m146) 40 0 xk_p146_0 (xl_okP (r := xm_m146) 40 40 xk_p146_40 (show xm_okC xm_m146.1 (decide (xm_m146.2.1.name = "<init>")) xm_m146.2.2.1 xm_m146.2.2.2.2.2.2.2.2 (xm_drop 80 xm_m146.2.2.2.2.2.2.2.2) = true by rw [xk_e146]; rfl)))
theorem xk_p147_0 : xm_okP xm_m147 40 0 = true := by decide +kernel
theorem xk_p147_40 : xm_okP xm_m147 40 40 = true := by decide +kernel
theorem xk_e147 : xm_drop 80 xm_m147.2.2.2.2.2.2.2.2 = [] := by decide +kernel
theorem xk_ok147 : xm_okM xm_m147 = true := xl_okM (by decide +kernel) (by decide +kernel) (xl_okP (r := xm_m147) 40 0 xk_p147_0 (xl_okP (r := xm_m147) 40 40 xk_p147_40 (show xm_okC xm_m147.1 (decide (xm_m147.2.1.name = "<init>")) xm_m147.2.2.1 xm_m147.2.2.2.2.2.2.2.2 (xm_drop 80 xm_m147.2.2.2.2.2.2.2.2) = true by rw [xk_e147]; rfl)))
theorem xk_p148_0 : xm_okP xm_m148 40 0 = true := by decide +kernel
theorem xk_p148_40 : xm_okP xm_m148 40 40 = true := by decide +kernel
theorem xk_p148_80 : xm_okP xm_m148 40 80 = true := by decide +kernel
theorem xk_e148 : xm_drop 120 xm_m148.2.2.2.2.2.2.2.2 = [] := by decide +kernel
theorem xk_ok148 : xm_okM xm_m148 = true := xl_okM (by decide +kernel) (by decide +kernel) (xl_okP (r := xm_m148) 40 0 xk_p148_0 (xl_okP (r := xm_m148) 40 40 xk_p148_40 (xl_okP (r := xm_m148) 40 80 xk_p148_80 (show xm_okC xm_m148.1 (decide (xm_m148.2.1.name = "<init>")) xm_m148.2.2.1 xm_m148.2.2.2.2.2.2.2.2 (xm_drop 120 xm_m148.2.2.2.2.2.2.2.2) = true by rw [xk_e148]; rfl))))
theorem xk_p149_0 : xm_okP xm_m149 40 0 = true := by decide +kernel
theorem xk_p149_40 : xm_okP xm_m149 40 40 = true := by decide +kernel
theorem xk_e149 : xm_drop 80 xm_m149.2.2.2.2.2.2.2.2 = [] := by decide +kernel
theorem xk_ok149 : xm_okM xm_m149 = true := xl_okM (by decide +kernel) (by decide +kernel) (xl_okP (r := xm_m149) 40 0 xk_p149_0 (xl_okP (r := xm_m149) 40 40 xk_p149_40 (show xm_okC xm_m149.1 (decide (xm_m149.2.1.name = "<init>")) xm_m149.2.2.1 xm_m149.2.2.2.2.2.2.2.2 (xm_drop 80 xm_m149.2.2.2.2.2.2.2.2) = true by rw [xk_e149]; rfl)))
theorem xk_p150_0 : xm_okP xm_m150 40 0 = true := by decide +kernel
theorem xk_e150 : xm_drop 40 xm_m150.2.2.2.2.2.2.2.2 = [] := by decide +kernel
theorem xk_ok150 : xm_okM xm_m150 = true := xl_okM (by decide +kernel) (by decide +kernel) (xl_okP (r := xm_m150) 40 0 xk_p150_0 (show xm_okC xm_m150.1 (decide (xm_m150.2.1.name = "<init>")) xm_m150.2.2.1 xm_m150.2.2.2.2.2.2.2.2 (xm_drop 40 xm_m150.2.2.2.2.2.2.2.2) = true by rw [xk_e150]; rfl))
theorem xk_p151_0 : xm_okP xm_m151 40 0 = true := by decide +kernel
theorem xk_e151 : xm_drop 40 xm_m151.2.2.2.2.2.2.2.2 = [] := by decide +kernel
theorem xk_ok151 : xm_okM xm_m151 = true := xl_okM (by decide +kernel) (by decide +kernel) (xl_okP (r := xm_m151) 40 0 xk_p151_0 (show xm_okC xm_m151.1 (decide (xm_m151.2.1.name = "<init>")) xm_m151.2.2.1 xm_m151.2.2.2.2.2.2.2.2 (xm_drop 40 xm_m151.2.2.2.2.2.2.2.2) = true by rw [xk_e151]; rfl))
theorem xk_p152_0 : xm_okP xm_m152 40 0 = true := by decide +kernel
theorem xk_p152_40 : xm_okP xm_m152 40 40 = true := by decide +kernel
theorem xk_e152 : xm_drop 80 xm_m152.2.2.2.2.2.2.2.2 = [] := by decide +kernel
theorem xk_ok152 : xm_okM xm_m152 = true := xl_okM (by decide +kernel) (by decide +kernel) (xl_okP (r := xm_m152) 40 0 xk_p152_0 (xl_okP (r := xm_m152) 40 40 xk_p152_40 (show xm_okC xm_m152.1 (decide (xm_m152.2.1.name = "<init>")) xm_m152.2.2.1 xm_m152.2.2.2.2.2.2.2.2 (xm_drop 80 xm_m152.2.2.2.2.2.2.2.2) = true by rw [xk_e152]; rfl)))
theorem xk_p153_0 : xm_okP xm_m153 40 0 = true := by decide +kernel
theorem xk_p153_40 : xm_okP xm_m153 40 40 = true := by decide +kernel
theorem xk_p153_80 : xm_okP xm_m153 40 80 = true := by decide +kernel
theorem xk_e153 : xm_drop 120 xm_m153.2.2.2.2.2.2.2.2 = [] := by decide +kernel
theorem xk_ok153 : xm_okM xm_m153 = true := xl_okM (by decide +kernel) (by decide +kernel) (xl_okP (r := xm_m153) 40 0 xk_p153_0 (xl_okP (r := xm_m153) 40 40 xk_p153_40 (xl_okP (r := xm_m153) 40 80 xk_p153_80 (show xm_okC xm_m153.1 (decide (xm_m153.2.1.name = "<init>")) xm_m153.2.2.1 xm_m153.2.2.2.2.2.2.2.2 (xm_drop 120 xm_m153.2.2.2.2.2.2.2.2) = true by rw [xk_e153]; rfl))))
theorem xk_p154_0 : xm_okP xm_m154 40 0 = true := by decide +kernel
theorem xk_e154 : xm_drop 40 xm_m154.2.2.2.2.2.2.2.2 = [] := by decide +kernel
theorem xk_ok154 : xm_okM xm_m154 = true := xl_okM (by decide +kernel) (by decide +kernel) (xl_okP (r := xm_m154) 40 0 xk_p154_0 (show xm_okC xm_m154.1 (decide (xm_m154.2.1.name = "<init>")) xm_m154.2.2.1 xm_m154.2.2.2.2.2.2.2.2 (xm_drop 40 xm_m154.2.2.2.2.2.2.2.2) = true by rw [xk_e154]; rfl))
theorem xk_p155_0 : xm_okP xm_m155 40 0 = true := by decide +kernel
theorem xk_e155 : xm_drop 40 xm_m155.2.2.2.2.2.2.2.2 = [] := by decide +kernel
theorem xk_ok155 : xm_okM xm_m155 = true := xl_okM (by decide +kernel) (by decide +kernel) (xl_okP (r := xm_m155) 40 0 xk_p155_0 (show xm_okC xm_m155.1 (decide (xm_m155.2.1.name = "<init>")) xm_m155.2.2.1 xm_m155.2.2.2.2.2.2.2.2 (xm_drop 40 xm_m155.2.2.2.2.2.2.2.2) = true by rw [xk_e155]; rfl))
theorem xk_p156_0 : xm_okP xm_m156 40 0 = true := by decide +kernel
theorem xk_p156_40 : xm_okP xm_m156 40 40 = true := by decide +kernel
theorem xk_p156_80 : xm_okP xm_m156 40 80 = true := by decide +kernel
theorem xk_e156 : xm_drop 120 xm_m156.2.2.2.2.2.2.2.2 = [] := by decide +kernel
theorem xk_ok156 : xm_okM xm_m156 = true := xl_okM (by decide +kernel) (by decide +kernel) (xl_okP (r := xm_m156) 40 0 xk_p156_0 (xl_okP (r := xm_m156) 40 40 xk_p156_40 (xl_okP (r := xm_m156) 40 80 xk_p156_80 (show xm_okC xm_m156.1 (decide (xm_m156.2.1.name = "<init>")) xm_m156.2.2.1 xm_m156.2.2.2.2.2.2.2.2 (xm_drop 120 xm_m156.2.2.2.2.2.2.2.2) = true by rw [xk_e156]; rfl))))
theorem xk_p157_0 : xm_okP xm_m157 40 0 = true := by decide +kernel
theorem xk_p157_40 : xm_okP xm_m157 40 40 = true := by decide +kernel
theorem xk_e157 : xm_drop 80 xm_m157.2.2.2.2.2.2.2.2 = [] := by decide +kernel
theorem xk_ok157 : xm_okM xm_m157 = true := xl_okM (by decide +kernel) (by decide +kernel) (xl_okP (r := xm_m157) 40 0 xk_p157_0 (xl_okP (r := xm_m157) 40 40 xk_p157_40 (show xm_okC xm_m157.1 (decide (xm_m157.2.1.name = "<init>")) xm_m157.2.2.1 xm_m157.2.2.2.2.2.2.2.2 (xm_drop 80 xm_m157.2.2.2.2.2.2.2.2) = true by rw [xk_e157]; rfl)))
theorem xk_p158_0 : xm_okP xm_m158 40 0 = true := by decide +kernel
theorem xk_p158_40 : xm_okP xm_m158 40 40 = true := by decide +kernel
theorem xk_p158_80 : xm_okP xm_m158 40 80 = true := by decide +kernel
theorem xk_e158 : xm_drop 120 xm_m158.2.2.2.2.2.2.2.2 = [] := by decide +kernel
theorem xk_ok158 : xm_okM xm_m158 = true := xl_okM (by decide +kernel) (by decide +kernel) (xl_okP (r := xm_m158) 40 0 xk_p158_0 (xl_okP (r := xm_m158) 40 40 xk_p158_40 (xl_okP (r := xm_m158) 40 80 xk_p158_80 (show xm_okC xm_m158.1 (decide (xm_m158.2.1.name = "<init>")) xm_m158.2.2.1 xm_m158.2.2.2.2.2.2.2.2 (xm_drop 120 xm_m158.2.2.2.2.2.2.2.2) = true by rw [xk_e158]; rfl))))
theorem xk_p159_0 : xm_okP xm_m159 40 0 = true := by decide +kernel
theorem xk_e159 : xm_drop 40 xm_m159.2.2.2.2.2.2.2.2 = [] := by decide +kernel
theorem xk_ok159 : xm_okM xm_m159 = true := xl_okM (by decide +kernel) (by decide +kernel) (xl_okP (r := xm_m159) 40 0 xk_p159_0 (show xm_okC xm_m159.1 (decide (xm_m159.2.1.name = "<init>")) xm_m159.2.2.1 xm_m159.2.2.2.2.2.2.2.2 (xm_drop 40 xm_m159.2.2.2.2.2.2.2.2) = true by rw [xk_e159]; rfl))
theorem xk_p160_0 : xm_okP xm_m160 40 0 = true := by decide +kernel
theorem xk_e160 : xm_drop 40 xm_m160.2.2.2.2.2.2.2.2 = [] := by decide +kernel
theorem xk_ok160 : xm_okM xm_m160 = true := xl_okM (by decide +kernel) (by decide +kernel) (xl_okP (r := xm_m160) 40 0 xk_p160_0 (show xm_okC xm_m160.1 (decide (xm_m160.2.1.name = "<init>")) xm_m160.2.2.1 xm_m160.2.2.2.2.2.2.2.2 (xm_drop 40 xm_m160.2.2.2.2.2.2.2.2) = true by rw [xk_e160]; rfl))
theorem xk_p161_0 : xm_okP xm_m161 40 0 = true := by decide +kernel
theorem xk_e161 : xm_drop 40 xm_m161.2.2.2.2.2.2.2.2 = [] := by decide +kernel
theorem xk_ok161 : xm_okM xm_m161 = true := xl_okM (by decide +kernel) (by decide +kernel) (xl_okP (r := xm_m161) 40 0 xk_p161_0 (show xm_okC xm_m161.1 (decide (xm_m161.2.1.name = "<init>")) xm_m161.2.2.1 xm_m161.2.2.2.2.2.2.2.2 (xm_drop 40 xm_m161.2.2.2.2.2.2.2.2) = true by rw [xk_e161]; rfl))
theorem xk_p162_0 : xm_okP xm_m162 40 0 = true := by decide +kernel
theorem xk_e162 : xm_drop 40 xm_m162.2.2.2.2.2.2.2.2 = [] := by decide +kernel
theorem xk_ok162 : xm_okM xm_m162 = true := xl_okM (by decide +kernel) (by decide +kernel) (xl_okP (r := xm_m162) 40 0 xk_p162_0 (show xm_okC xm_m162.1 (decide (xm_m162.2.1.name = "<init>")) xm_m162.2.2.1 xm_m162.2.2.2.2.2.2.2.2 (xm_drop 40 xm_m162.2.2.2.2.2.2.2.2) = true by rw [xk_e162]; rfl))
theorem xk_p163_0 : xm_okP xm_m163 40 0 = true := by decide +kernel
theorem xk_p163_40 : xm_okP xm_m163 40 40 = true := by decide +kernel
theorem xk_e163 : xm_drop 80 xm_m163.2.2.2.2.2.2.2.2 = [] := by decide +kernel
theorem xk_ok163 : xm_okM xm_m163 = true := xl_okM (by decide +kernel) (by decide +kernel) (xl_okP (r := xm_m163) 40 0 xk_p163_0 (xl_okP (r := xm_m163) 40 40 xk_p163_40 (show xm_okC xm_m163.1 (decide (xm_m163.2.1.name = "<init>")) xm_m163.2.2.1 xm_m163.2.2.2.2.2.2.2.2 (xm_drop 80 xm_m163.2.2.2.2.2.2.2.2) = true by rw [xk_e163]; rfl)))
theorem xk_p164_0 : xm_okP xm_m164 40 0 = true := by decide +kernel
theorem xk_p164_40 : xm_okP xm_m164 40 40 = true := by decide +kernel
theorem xk_p164_80 : xm_okP xm_m164 40 80 = true := by decide +kernel
theorem xk_e164 : xm_drop 120 xm_m164.2.2.2.2.2.2.2.2 = [] := by decide +kernel
theorem xk_ok164 : xm_okM xm_m164 = true := xl_okM (by decide +kernel) (by decide +kernel) (xl_okP (r := xm_m164) 40 0 xk_p164_0 (xl_okP (r := xm_m164) 40 40 xk_p164_40 (xl_okP (r := xm_m164) 40 80 xk_p164_80 (show xm_okC xm_m164.1 (decide (xm_m164.2.1.name = "<init>")) xm_m164.2.2.1 xm_m164.2.2.2.2.2.2.2.2 (xm_drop 120 xm_m164.2.2.2.2.2.2.2.2) = true by rw [xk_e164]; rfl))))
theorem xk_p165_0 : xm_okP xm_m165 40 0 = true := by decide +kernel
theorem xk_p165_40 : xm_okP xm_m165 40 40 = true := by decide +kernel
theorem xk_e165 : xm_drop 80 xm_m165.2.2.2.2.2.2.2.2 = [] := by decide +kernel
theorem xk_ok165 : xm_okM xm_m165 = true := xl_okM (by decide +kernel) (by decide +kernel) (xl_okP (r := xm_m165) 40 0 xk_p165_0 (xl_okP (r := xm_m165) 40 40 xk_p165_40 (show xm_okC xm_m165.1 (decide (xm_m165.2.1.name = "<init>")) xm_m165.2.2.1 xm_m165.2.2.2.2.2.2.2.2 (xm_drop 80 xm_m165.2.2.2.2.2.2.2.2) = true by rw [xk_e165]; rfl)))
theorem xk_p166_0 : xm_okP xm_m166 40 0 = true := by decide +kernel
theorem xk_p166_40 : xm_okP xm_m166 40 40 = true := by decide +kernel
theorem xk_e166 : xm_drop 80 xm_m166.2.2.2.2.2.2.2.2 = [] := by decide +kernel
theorem xk_ok166 : xm_okM xm_m166 = true := xl_okM (by decide +kernel) (by decide +kernel) (xl_okP (r := xm_m166) 40 0 xk_p166_0 (xl_okP (r := xm_m166) 40 40 xk_p166_40 (show xm_okC xm_m166.1 (decide (xm_m166.2.1.name = "<init>")) xm_m166.2.2.1 xm_m166.2.2.2.2.2.2.2.2 (xm_drop 80 xm_m166.2.2.2.2.2.2.2.2) = true by rw [xk_e166]; rfl)))
theorem xk_p167_0 : xm_okP xm_m167 40 0 = true := by decide +kernel
theorem xk_p167_40 : xm_okP xm_m167 40 40 = true := by decide +kernel
theorem xk_e167 : xm_drop 80 xm_m167.2.2.2.2.2.2.2.2 = [] := by decide +kernel
theorem xk_ok167 : xm_okM xm_m167 = true := xl_okM (by decide +kernel) (by decide +kernel) (xl_okP (r := xm_m167) 40 0 xk_p167_0 (xl_okP (r := xm_m167) 40 40 xk_p167_40 (show xm_okC xm_m167.1 (decide (xm_m167.2.1.name = "<init>")) xm_m167.2.2.1 xm_m167.2.2.2.2.2.2.2.2 (xm_drop 80 xm_m167.2.2.2.2.2.2.2.2) = true by rw [xk_e167]; rfl)))
theorem xk_p168_0 : xm_okP xm_m168 40 0 = true := by decide +kernel
theorem xk_e168 : xm_drop 40 xm_m168.2.2.2.2.2.2.2.2 = [] := by decide +kernel
theorem xk_ok168 : xm_okM xm_m168 = true := xl_okM (by decide +kernel) (by decide +kernel) (xl_okP (r := xm_m168) 40 0 xk_p168_0 (show xm_okC xm_m168.1 (decide (xm_m168.2.1.name = "<init>")) xm_m168.2.2.1 xm_m168.2.2.2.2.2.2.2.2 (xm_drop 40 xm_m168.2.2.2.2.2.2.2.2) = true by rw [xk_e168]; rfl))
theorem xk_p169_0 : xm_okP xm_m169 40 0 = true := by decide +kernel
theorem xk_p169_40 : xm_okP xm_m169 40 40 = true := by decide +kernel
theorem xk_p169_80 : xm_okP xm_m169 40 80 = true := by decide +kernel
theorem xk_e169 : xm_drop 120 xm_m169.2.2.2.2.2.2.2.2 = [] := by decide +kernel
theorem xk_ok169 : xm_okM xm_m169 = true := xl_okM (by decide +kernel) (by decide +kernel) (xl_okP (r := xm_m169) 40 0 xk_p169_0 (xl_okP (r := xm_m169) 40 40 xk_p169_40 (xl_okP (r := xm_m169) 40 80 xk_p169_80 (show xm_okC xm_m169.1 (decide (xm_m169.2.1.name = "<init>")) xm_m169.2.2.1 xm_m169.2.2.2.2.2.2.2.2 (xm_drop 120 xm_m169.2.2.2.2.2.2.2.2) = true by rw [xk_e169]; rfl))))
theorem xk_p170_0 : xm_okP xm_m170 40 0 = true := by decide +kernel
theorem xk_e170 : xm_drop 40 xm_m170.2.2.2.2.2.2.2.2 = [] := by decide +kernel
theorem xk_ok170 : xm_okM xm_m170 = true := xl_okM (by decide +kernel) (by decide +kernel) (xl_okP (r := xm_m170) 40 0 xk_p170_0 (show xm_okC xm_m170.1 (decide (xm_m170.2.1.name = "<init>")) xm_m170.2.2.1 xm_m170.2.2.2.2.2.2.2.2 (xm_drop 40 xm_m170.2.2.2.2.2.2.2.2) = true by rw [xk_e170]; rfl))
theorem xk_p171_0 : xm_okP xm_m171 40 0 = true := by decide +kernel
theorem xk_e171 : xm_drop 40 xm_m171.2.2.2.2.2.2.2.2 = [] := by decide +kernel
theorem xk_ok171 : xm_okM xm_m171 = true := xl_okM (by decide +kernel) (by decide +kernel) (xl_okP (r := xm_m171) 40 0 xk_p171_0 (show xm_okC xm_m171.1 (decide (xm_m171.2.1.name = "<init>")) xm_m171.2.2.1 xm_m171.2.2.2.2.2.2.2.2 (xm_drop 40 xm_m171.2.2.2.2.2.2.2.2) = true by rw [xk_e171]; rfl))
theorem xk_p172_0 : xm_okP xm_m172 40 0 = true := by decide +kernel
theorem xk_e172 : xm_drop 40 xm_m172.2.2.2.2.2.2.2.2 = [] := by decide +kernel
theorem xk_ok172 : xm_okM xm_m172 = true := xl_okM (by decide +kernel) (by decide +kernel) (xl_okP (r := xm_m172) 40 0 xk_p172_0 (show xm_okC xm_m172.1 (decide (xm_m172.2.1.name = "<init>")) xm_m172.2.2.1 xm_m172.2.2.2.2.2.2.2.2 (xm_drop 40 xm_m172.2.2.2.2.2.2.2.2) = true by rw [xk_e172]; rfl))
theorem xk_p173_0 : xm_okP xm_m173 40 0 = true := by decide +kernel
theorem xk_p173_40 : xm_okP xm_m173 40 40 = true := by decide +kernel
theorem xk_p173_80 : xm_okP xm_m173 40 80 = true := by decide +kernel
theorem xk_e173 : xm_drop 120 xm_m173.2.2.2.2.2.2.2.2 = [] := by decide +kernel
theorem xk_ok173 : xm_okM xm_m173 = true := xl_okM (by decide +kernel) (by decide +kernel) (xl_okP (r := xm_m173) 40 0 xk_p173_0 (xl_okP (r := xm_m173) 40 40 xk_p173_40 (xl_okP (r := xm_m173) 40 80 xk_p173_80 (show xm_okC xm_m173.1 (decide (xm_m173.2.1.name = "<init>")) xm_m173.2.2.1 xm_m173.2.2.2.2.2.2.2.2 (xm_drop 120 xm_m173.2.2.2.2.2.2.2.2) = true by rw [xk_e173]; rfl))))
theorem xk_p174_0 : xm_okP xm_m174 40 0 = true := by decide +kernel
theorem xk_p174_40 : xm_okP xm_m174 40 40 = true := by decide +kernel
theorem xk_e174 : xm_drop 80 xm_m174.2.2.2.2.2.2.2.2 = [] := by decide +kernel
theorem xk_ok174 : xm_okM xm_m174 = true := xl_okM (by decide +kernel) (by decide +kernel) (xl_okP (r := xm_m174) 40 0 xk_p174_0 (xl_okP (r := xm_m174) 40 40 xk_p174_40 (show xm_okC xm_m174.1 (decide (xm_m174.2.1.name = "<init>")) xm_m174.2.2.1 xm_m174.2.2.2.2.2.2.2.2 (xm_drop 80 xm_m174.2.2.2.2.2.2.2.2) = true by rw [xk_e174]; rfl)))
theorem xk_p175_0 : xm_okP xm_m175 40 0 = true := by decide +kernel
theorem xk_e175 : xm_drop 40 xm_m175.2.2.2.2.2.2.2.2 = [] := by decide +kernel
theorem xk_ok175 : xm_okM xm_m175 = true := xl_okM (by decide +kernel) (by decide +kernel) (xl_okP (r := xm_m175) 40 0 xk_p175_0 (show xm_okC xm_m175.1 (decide (xm_m175.2.1.name = "<init>")) xm_m175.2.2.1 xm_m175.2.2.2.2.2.2.2.2 (xm_drop 40 xm_m175.2.2.2.2.2.2.2.2) = true by rw [xk_e175]; rfl))
theorem xk_p176_0 : xm_okP xm_m176 40 0 = true := by decide +kernel
theorem xk_e176 : xm_drop 40 xm_m176.2.2.2.2.2.2.2.2 = [] := by decide +kernel
theorem xk_ok176 : xm_okM xm_m176 = true := xl_okM (by decide +kernel) (by decide +kernel) (xl_okP (r := xm_m176) 40 0 xk_p176_0 (show xm_okC xm_m176.1 (decide (xm_m176.2.1.name = "<init>")) xm_m176.2.2.1 xm_m176.2.2.2.2.2.2.2.2 (xm_drop 40 xm_m176.2.2.2.2.2.2.2.2) = true by rw [xk_e176]; rfl))
theorem xk_p177_0 : xm_okP xm_m177 40 0 = true := by decide +kernel
theorem xk_e177 : xm_drop 40 xm_m177.2.2.2.2.2.2.2.2 = [] := by decide +kernel
theorem xk_ok177 : xm_okM xm_m177 = true := xl_okM (by decide +kernel) (by decide +kernel) (xl_okP (r := xm_m177) 40 0 xk_p177_0 (show xm_okC xm_m177.1 (decide (xm_m177.2.1.name = "<init>")) xm_m177.2.2.1 xm_m177.2.2.2.2.2.2.2.2 (xm_drop 40 xm_m177.2.2.2.2.2.2.2.2) = true by rw [xk_e177]; rfl))
theorem xk_p178_0 : xm_okP xm_m178 40 0 = true := by decide +kernel
theorem xk_e178 : xm_drop 40 xm_m178.2.2.2.2.2.2.2.2 = [] := by decide +kernel
theorem xk_ok178 : xm_okM xm_m178 = true := xl_okM (by decide +kernel) (by decide +kernel) (xl_okP (r := xm_m178) 40 0 xk_p178_0 (show xm_okC xm_m178.1 (decide (xm_m178.2.1.name = "<init>")) xm_m178.2.2.1 xm_m178.2.2.2.2.2.2.2.2 (xm_drop 40 xm_m178.2.2.2.2.2.2.2.2) = true by rw [xk_e178]; rfl))
theorem xk_p179_0 : xm_okP xm_m179 40 0 = true := by decide +kernel
theorem xk_e179 : xm_drop 40 xm_m179.2.2.2.2.2.2.2.2 = [] := by decide +kernel
theorem xk_ok179 : xm_okM xm_m179 = true := xl_okM (by decide +kernel) (by decide +kernel) (xl_okP (r := xm_m179) 40 0 xk_p179_0 (show xm_okC xm_m179.1 (decide (xm_m179.2.1.name = "<init>")) xm_m179.2.2.1 xm_m179.2.2.2.2.2.2.2.2 (xm_drop 40 xm_m179.2.2.2.2.2.2.2.2) = true by rw [xk_e179]; rfl))
theorem xk_p180_0 : xm_okP xm_m180 40 0 = true := by decide +kernel
theorem xk_e180 : xm_drop 40 xm_m180.2.2.2.2.2.2.2.2 = [] := by decide +kernel
theorem xk_ok180 : xm_okM xm_m180 = true := xl_okM (by decide +kernel) (by decide +kernel) (xl_okP (r := xm_m180) 40 0 xk_p180_0 (show xm_okC xm_m180.1 (decide (xm_m180.2.1.name = "<init>")) xm_m180.2.2.1 xm_m180.2.2.2.2.2.2.2.2 (xm_drop 40 xm_m180.2.2.2.2.2.2.2.2) = true by rw [xk_e180]; rfl))
end
section
theorem xk_p181_0 : xm_okP xm_m181 40 0 = true := by decide +kernel
theorem xk_e181 : xm_drop 40 xm_m181.2.2.2.2.2.2.2.2 = [] := by decide +kernel
theorem xk_ok181 : xm_okM xm_m181 = true := xl_okM (by decide +kernel) (by decide +kernel) (xl_okP (r := xm_m181) 40 0 xk_p181_0 (show xm_okC xm_m181.1 (decide (xm_m181.2.1.name = "<init>")) xm_m181.2.2.1 xm_m181.2.2.2.2.2.2.2.2 (xm_drop 40 xm_m181.2.2.2.2.2.2.2.2) = true by rw [xk_e181]; rfl))
theorem xk_p182_0 : xm_okP xm_m182 40 0 = true := by decide +kernel
theorem xk_e182 : xm_drop 40 xm_m182.2.2.2.2.2.2.2.2 = [] := by decide +kernel
theorem xk_ok182 : xm_okM xm_m182 = true := xl_okM (by decide +kernel) (by decide +kernel) (xl_okP (r := xm_m182) 40 0 xk_p182_0 (show xm_okC xm_m182.1 (decide (xm_m182.2.1.name = "<init>")) xm_m182.2.2.1 xm_m182.2.2.2.2.2.2.2.2 (xm_drop 40 xm_m182.2.2.2.2.2.2.2.2) = true by rw [xk_e182]; rfl))
theorem xk_p183_0 : xm_okP xm_m183 40 0 = true := by decide +kernel
theorem xk_e183 : xm_drop 40 xm_m183.2.2.2.2.2.2.2.2 = [] := by decide +kernel
theorem xk_ok183 : xm_okM xm_m183 = true := xl_okM (by decide +kernel) (by decide +kernel) (xl_okP (r := xm_m183) 40 0 xk_p183_0 (show xm_okC xm_m183.1 (decide (xm_m183.2.1.name = "<init>")) xm_m183.2.2.1 xm_m183.2.2.2.2.2.2.2.2 (xm_drop 40 xm_m183.2.2.2.2.2.2.2.2) = true by rw [xk_e183]; rfl))
theorem xk_p184_0 : xm_okP xm_m184 40 0 = true := by decide +kernel
theorem xk_e184 : xm_drop 40 xm_m184.2.2.2.2.2.2.2.2 = [] := by decide +kernel
theorem xk_ok184 : xm_okM xm_m184 = true := xl_okM (by decide +kernel) (by decide +kernel) (xl_okP (r := xm_m184) 40 0 xk_p184_0 (show xm_okC xm_m184.1 (decide (xm_m184.2.1.name = "<init>")) xm_m184.2.2.1 xm_m184.2.2.2.2.2.2.2.2 (xm_drop 40 xm_m184.2.2.2.2.2.2.2.2) = true by rw [xk_e184]; rfl))
theorem xk_p185_0 : xm_okP xm_m185 40 0 = true := by decide +kernel
theorem xk_e185 : xm_drop 40 xm_m185.2.2.2.2.2.2.2.2 = [] := by decide +kernel
theorem xk_ok185 : xm_okM xm_m185 = true := xl_okM (by decide +kernel) (by decide +kernel) (xl_okP (r := xm_m185) 40 0 xk_p185_0 (show xm_okC xm_m185.1 (decide (xm_m185.2.1.name = "<init>")) xm_m185.2.2.1 xm_m185.2.2.2.2.2.2.2.2 (xm_drop 40 xm_m185.2.2.2.2.2.2.2.2) = true by rw [xk_e185]; rfl))
theorem xk_p186_0 : xm_okP xm_m186 40 0 = true := by decide +kernel
theorem xk_p186_40 : xm_okP xm_m186 40 40 = true := by decide +kernel
theorem xk_e186 : xm_drop 80 xm_m186.2.2.2.2.2.2.2.2 = [] := by decide +kernel
theorem xk_ok186 : xm_okM xm_m186 = true := xl_okM (by decide +kernel) (by decide +kernel) (xl_okP (r := xm_m186) 40 0 xk_p186_0 (xl_okP (r := xm_m186) 40 40 xk_p186_40 (show xm_okC xm_m186.1 (decide (xm_m186.2.1.name = "<init>")) xm_m186.2.2.1 xm_m186.2.2.2.2.2.2.2.2 (xm_drop 80 xm_m186.2.2.2.2.2.2.2.2) = true by rw [xk_e186]; rfl)))
theorem xk_p187_0 : xm_okP xm_m187 40 0 = true := by decide +kernel
theorem xk_e187 : xm_drop 40 xm_m187.2.2.2.2.2.2.2.2 = [] := by decide +kernel
theorem xk_ok187 : xm_okM xm_m187 = true := xl_okM (by decide +kernel) (by decide +kernel) (xl_okP (r := xm_m187) 40 0 xk_p187_0 (show xm_okC xm_m187.1 (decide (xm_m187.2.1.name = "<init>")) xm_m187.2.2.1 xm_m187.2.2.2.2.2.2.2.2 (xm_drop 40 xm_m187.2.2.2.2.2.2.2.2) = true by rw [xk_e187]; rfl))
theorem xk_p188_0 : xm_okP xm_m188 40 0 = true := by decide +kernel
theorem xk_p188_40 : xm_okP xm_m188 40 40 = true := by decide +kernel
theorem xk_e188 : xm_drop 80 xm_m188.2.2.2.2.2.2.2.2 = [] := by decide +kernel
theorem xk_ok188 : xm_okM xm_m188 = true := xl_okM (by decide +kernel) (by decide +kernel) (xl_okP (r := xm_m188) 40 0 xk_p188_0 (xl_okP (r := xm_m188) 40 40 xk_p188_40 (show xm_okC xm_m188.1 (decide (xm_m188.2.1.name = "<init>")) xm_m188.2.2.1 xm_m188.2.2.2.2.2.2.2.2 (xm_drop 80 xm_m188.2.2.2.2.2.2.2.2) = true by rw [xk_e188]; rfl)))
theorem xk_p189_0 : xm_okP xm_m189 40 0 = true := by decide +kernel
theorem xk_p189_40 : xm_okP xm_m189 40 40 = true := by decide +kernel
theorem xk_e189 : xm_drop 80 xm_m189.2.2.2.2.2.2.2.2 = [] := by decide +kernel
theorem xk_ok189 : xm_okM xm_m189 = true := xl_okM (by decide +kernel) (by decide +kernel) (xl_okP (r := xm_m189) 40 0 xk_p189_0 (xl_okP (r := xm_m189) 40 40 xk_p189_40 (show xm_okC xm_m189.1 (decide (xm_m189.2.1.name = "<init>")) xm_m189.2.2.1 xm_m189.2.2.2.2.2.2.2.2 (xm_drop 80 xm_m189.2.2.2.2.2.2.2.2) = true by rw [xk_e189]; rfl)))
theorem xk_p190_0 : xm_okP xm_m190 40 0 = true := by decide +kernel
theorem xk_e190 : xm_drop 40 xm_m190.2.2.2.2.2.2.2.2 = [] := by decide +kernel
theorem xk_ok190 : xm_okM xm_m190 = true := xl_okM (by decide +kernel) (by decide +kernel) (xl_okP (r := xm_m190) 40 0 xk_p190_0 (show xm_okC xm_m190.1 (decide (xm_m190.2.1.name = "<init>")) xm_m190.2.2.1 xm_m190.2.2.2.2.2.2.2.2 (xm_drop 40 xm_m190.2.2.2.2.2.2.2.2) = true by rw [xk_e190]; rfl))
theorem xk_p191_0 : xm_okP xm_m191 40 0 = true := by decide +kernel
theorem xk_e191 : xm_drop 40 xm_m191.2.2.2.2.2.2.2.2 = [] := by decide +kernel
theorem xk_ok191 : xm_okM xm_m191 = true := xl_okM (by decide +kernel) (by decide +kernel) (xl_okP (r := xm_m191) 40 0 xk_p191_0 (show xm_okC xm_m191.1 (decide (xm_m191.2.1.name = "<init>")) xm_m191.2.2.1 xm_m191.2.2.2.2.2.2.2.2 (xm_drop 40 xm_m191.2.2.2.2.2.2.2.2) = true by rw [xk_e191]; rfl))
theorem xk_p192_0 : xm_okP xm_m192 40 0 = true := by decide +kernel
theorem xk_p192_40 : xm_okP xm_m192 40 40 = true := by decide +kernel
theorem xk_p192_80 : xm_okP xm_m192 40 80 = true := by decide +kernel
theorem xk_e192 : xm_drop 120 xm_m192.2.2.2.2.2.2.2.2 = [] := by decide +kernel
theorem xk_ok192 : xm_okM xm_m192 = true := xl_okM (by decide +kernel) (by decide +kernel) (xl_okP (r := xm_m192) 40 0 xk_p192_0 (xl_okP (r := xm_m192) 40 40 xk_p192_40 (xl_okP (r := xm_m192) 40 80 xk_p192_80 (show xm_okC xm_m192.1 (decide (xm_m192.2.1.name = "<init>")) xm_m192.2.2.1 xm_m192.2.2.2.2.2.2.2.2 (xm_drop 120 xm_m192.2.2.2.2.2.2.2.2) = true by rw [xk_e192]; rfl))))
theorem xk_p193_0 : xm_okP xm_m193 40 0 = true := by decide +kernel
theorem xk_p193_40 : xm_okP xm_m193 40 40 = true := by decide +kernel
theorem xk_e193 : xm_drop 80 xm_m193.2.2.2.2.2.2.2.2 = [] := by decide +kernel
theorem xk_ok193 : xm_okM xm_m193 = true := xl_okM (by decide +kernel) (by decide +kernel) (xl_okP (r := xm_m193) 40 0 xk_p193_0 (xl_okP (r := xm_m193) 40 40 xk_p193_40 (show xm_okC xm_m193.1 (decide (xm_m193.2.1.name = "<init>")) xm_m193.2.2.1 xm_m193.2.2.2.2.2.2.2.2 (xm_drop 80 xm_m193.2.2.2.2.2.2.2.2) = true by rw [xk_e193]; rfl)))
theorem xk_p194_0 : xm_okP xm_m194 40 0 = true := by decide +kernel
theorem xk_p194_40 : xm_okP xm_m194 40 40 = true := by decide +kernel
theorem xk_e194 : xm_drop 80 xm_m194.2.2.2.2.2.2.2.2 = [] := by decide +kernel
theorem xk_ok194 : xm_okM xm_m194 = true := xl_okM (by decide +kernel) (by decide +kernel) (xl_okP (r := xm_m194) 40 0 xk_p194_0 (xl_okP (r := xm_m194) 40 40 xk_p194_40 (show xm_okC xm_m194.1 (decide (xm_m194.2.1.name = "<init>")) xm_m194.2.2.1 xm_m194.2.2.2.2.2.2.2.2 (xm_drop 80 xm_m194.2.2.2.2.2.2.2.2) = true by rw [xk_e194]; rfl)))
theorem xk_p195_0 : xm_okP xm_m195 40 0 = true := by decide +kernel
theorem xk_p195_40 : xm_okP xm_m195 40 40 = true := by decide +kernel
theorem xk_e195 : xm_drop 80 xm_m195.2.2.2.2.2.2.2.2 = [] := by decide +kernel
theorem xk_ok195 : xm_okM xm_m195 = true := xl_okM (by decide +kernel) (by decide +kernel) (xl_okP (r := xm_m195) 40 0 xk_p195_0 (xl_okP (r := xm_m195) 40 40 xk_p195_40 (show xm_okC xm_m195.1 (decide (xm_m195.2.1.name = "<init>")) xm_m195.2.2.1 xm_m195.2.2.2.2.2.2.2.2 (xm_drop 80 xm_m195.2.2.2.2.2.2.2.2) = true by rw [xk_e195]; rfl)))
theorem xk_p196_0 : xm_okP xm_m196 40 0 = true := by decide +kernel
theorem xk_p196_40 : xm_okP xm_m196 40 40 = true := by decide +kernel
theorem xk_p196_80 : xm_okP xm_m196 40 80 = true := by decide +kernel
theorem xk_e196 : xm_drop 120 xm_m196.2.2.2.2.2.2.2.2 = [] := by decide +kernel
theorem xk_ok196 : xm_okM xm_m196 = true := xl_okM (by decide +kernel) (by decide +kernel) (xl_okP (r := xm_m196) 40 0 xk_p196_0 (xl_okP (r := xm_m196) 40 40 xk_p196_40 (xl_okP (r := xm_m196) 40 80 xk_p196_80 (show xm_okC xm_m196.1 (decide (xm_m196.2.1.name = "<init>")) xm_m196.2.2.1 xm_m196.2.2.2.2.2.2.2.2 (xm_drop 120 xm_m196.2.2.2.2.2.2.2.2) = true by rw [xk_e196]; rfl))))
theorem xk_p197_0 : xm_okP xm_m197 40 0 = true := by decide +kernel
theorem xk_p197_40 : xm_okP xm_m197 40 40 = true := by decide +kernel
theorem xk_e197 : xm_drop 80 xm_m197.2.2.2.2.2.2.2.2 = [] := by decide +kernel
theorem xk_ok197 : xm_okM xm_m197 = true := xl_okM (by decide +kernel) (by decide +kernel) (xl_okP (r := xm_m197) 40 0 xk_p197_0 (xl_okP (r := xm_m197) 40 40 xk_p197_40 (show xm_okC xm_m197.1 (decide (xm_m197.2.1.name = "<init>")) xm_m197.2.2.1 xm_m197.2.2.2.2.2.2.2.2 (xm_drop 80 xm_m197.2.2.2.2.2.2.2.2) = true by rw [xk_e197]; rfl)))
theorem xk_p198_0 : xm_okP xm_m198 40 0 = true := by decide +kernel
theorem xk_p198_40 : xm_okP xm_m198 40 40 = true := by decide +kernel
theorem xk_e198 : xm_drop 80 xm_m198.2.2.2.2.2.2.2.2 = [] := by decide +kernel
theorem xk_ok198 : xm_okM xm_m198 = true := xl_okM (by decide +kernel) (by decide +kernel) (xl_okP (r := xm_m198) 40 0 xk_p198_0 (xl_okP (r := xm_m198) 40 40 xk_p198_40 (show xm_okC xm_m198.1 (decide (xm_m198.2.1.name = "<init>")) xm_m198.2.2.1 xm_m198.2.2.2.2.2.2.2.2 (xm_drop 80 xm_m198.2.2.2.2.2.2.2.2) = true by rw [xk_e198]; rfl)))
theorem xk_p199_0 : xm_okP xm_m199 40 0 = true := by decide +kernel
theorem xk_e199 : xm_drop 40 xm_m199.2.2.2.2.2.2.2.2 = [] := by decide +kernel
theorem xk_ok199 : xm_okM xm_m199 = true := xl_okM (by decide +kernel) (by decide +kernel) (xl_okP (r := xm_m199) 40 0 xk_p199_0 (show xm_okC xm_m199.1 (decide (xm_m199.2.1.name = "<init>")) xm_m199.2.2.1 xm_m199.2.2.2.2.2.2.2.2 (xm_drop 40 xm_m199.2.2.2.2.2.2.2.2) = true by rw [xk_e199]; rfl))
theorem xk_p200_0 : xm_okP xm_m200 40 0 = true := by decide +kernel
theorem xk_e200 : xm_drop 40 xm_m200.2.2.2.2.2.2.2.2 = [] := by decide +kernel
theorem xk_ok200 : xm_okM xm_m200 = true := xl_okM (by decide +kernel) (by decide +kernel) (xl_okP (r := xm_m200) 40 0 xk_p200_0 (show xm_okC xm_m200.1 (decide (xm_m200.2.1.name = "<init>")) xm_m200.2.2.1 xm_m200.2.2.2.2.2.2.2.2 (xm_drop 40 xm_m200.2.2.2.2.2.2.2.2) = true by rw [xk_e200]; rfl))
theorem xk_p201_0 : xm_okP xm_m201 40 0 = true := by decide +kernel
theorem xk_e201 : xm_drop 40 xm_m201.2.2.2.2.2.2.2.2 = [] := by decide +kernel
theorem xk_ok201 : xm_okM xm_m201 = true := xl_okM (by decide +kernel) (by decide +kernel) (xl_okP (r := xm_m201) 40 0 xk_p201_0 (show xm_okC xm_m201.1 (decide (xm_m201.2.1.name = "<init>")) xm_m201.2.2.1 xm_m201.2.2.2.2.2.2.2.2 (xm_drop 40 xm_m201.2.2.2.2.2.2.2.2) = true by rw [xk_e201]; rfl))
theorem xk_p202_0 : xm_okP xm_m202 40 0 = true := by decide +kernel
theorem xk_e202 : xm_drop 40 xm_m202.2.2.2.2.2.2.2.2 = [] := by decide +kernel
theorem xk_ok202 : xm_okM xm_m202 = true := xl_okM (by decide +kernel) (by decide +kernel) (xl_okP (r := xm_m202) 40 0 xk_p202_0 (show xm_okC xm_m202.1 (decide (xm_m202.2.1.name = "<init>")) xm_m202.2.2.1 xm_m202.2.2.2.2.2.2.2.2 (xm_drop 40 xm_m202.2.2.2.2.2.2.2.2) = true by rw [xk_e202]; rfl))
theorem xk_p203_0 : xm_okP xm_m203 40 0 = true := by decide +kernel
theorem xk_e203 : xm_drop 40 xm_m203.2.2.2.2.2.2.2.2 = [] := by decide +kernel
theorem xk_ok203 : xm_okM xm_m203 = true := xl_okM (by decide +kernel) (by decide +kernel) (xl_okP (r := xm_m203) 40 0 xk_p203_0 (show xm_okC xm_m203.1 (decide (xm_m203.2.1.name = "<init>")) xm_m203.2.2.1 xm_m203.2.2.2.2.2.2.2.2 (xm_drop 40 xm_m203.2.2.2.2.2.2.2.2) = true by rw [xk_e203]; rfl))
theorem xk_p204_0 : xm_okP xm_m204 40 0 = true := by decide +kernel
theorem xk_e204 : xm_drop 40 xm_m204.2.2.2.2.2.2.2.2 = [] := by decide +kernel
theorem xk_ok204 : xm_okM xm_m204 = true := xl_okM (by decide +kernel) (by decide +kernel) (xl_okP (r := xm_m204) 40 0 xk_p204_0 (show xm_okC xm_m204.1 (decide (xm_m204.2.1.name = "<init>")) xm_m204.2.2.1 xm_m204.2.2.2.2.2.2.2.2 (xm_drop 40 xm_m204.2.2.2.2.2.2.2.2) = true by rw [xk_e204]; rfl))
theorem xk_p205_0 : xm_okP xm_m205 40 0 = true := by decide +kernel
theorem xk_e205 : xm_drop 40 xm_m205.2.2.2.2.2.2.2.2 = [] := by decide +kernel
theorem xk_ok205 : xm_okM xm_m205 = true := xl_okM (by decide +kernel) (by decide +kernel) (xl_okP (r := xm_m205) 40 0 xk_p205_0 (show xm_okC xm_m205.1 (decide (xm_m205.2.1.name = "<init>")) xm_m205.2.2.1 xm_m205.2.2.2.2.2.2.2.2 (xm_drop 40 xm_m205.2.2.2.2.2.2.2.2) = true by rw [xk_e205]; rfl))
theorem xk_p206_0 : xm_okP xm_m206 40 0 = true := by decide +kernel
theorem xk_e206 : xm_drop 40 xm_m206.2.2.2.2.2.2.2.2 = [] := by decide +kernel
theorem xk_ok206 : xm_okM xm_m206 = true := xl_okM (by decide +kernel) (by decide +kernel) (xl_okP (r := xm_m206) 40 0 xk_p206_0 (show xm_okC xm_m206.1 (decide (xm_m206.2.1.name = "<init>")) xm_m206.2.2.1 xm_m206.2.2.2.2.2.2.2.2 (xm_drop 40 xm_m206.2.2.2.2.2.2.2.2) = true by rw [xk_e206]; rfl))
theorem xk_p207_0 : xm_okP xm_m207 40 0 = true := by decide +kernel
theorem xk_e207 : xm_drop 40 xm_m207.2.2.2.2.2.2.2.2 = [] := by decide +kernel
theorem xk_ok207 : xm_okM xm_m207 = true := xl_okM (by decide +kernel) (by decide +kernel) (xl_okP (r := xm_m207) 40 0 xk_p207_0 (show xm_okC xm_m207.1 (decide (xm_m207.2.1.name = "<init>")) xm_m207.2.2.1 xm_m207.2.2.2.2.2.2.2.2 (xm_drop 40 xm_m207.2.2.2.2.2.2.2.2) = true by rw [xk_e207]; rfl))
theorem xk_p208_0 : xm_okP xm_m208 40 0 = true := by decide +kernel
theorem xk_e208 : xm_drop 40 xm_m208.2.2.2.2.2.2.2.2 = [] := by decide +kernel
theorem xk_ok208 : xm_okM xm_m208 = true := xl_okM (by decide +kernel) (by decide +kernel) (xl_okP (r := xm_m208) 40 0 xk_p208_0 (show xm_okC xm_m208.1 (decide (xm_m208.2.1.name = "<init>")) xm_m208.2.2.1 xm_m208.2.2.2.2.2.2.2.2 (xm_drop 40 xm_m208.2.2.2.2.2.2.2.2) = true by rw [xk_e208]; rfl))
theorem xk_p209_0 : xm_okP xm_m209 40 0 = true := by decide +kernel
theorem xk_e209 : xm_drop 40 xm_m209.2.2.2.2.2.2.2.2 = [] := by decide +kernel
theorem xk_ok209 : xm_okM xm_m209 = true := xl_okM (by decide +kernel) (by decide +kernel) (xl_okP (r := xm_m209) 40 0 xk_p209_0 (show xm_okC xm_m209.1 (decide (xm_m209.2.1.name = "<init>")) xm_m209.2.2.1 xm_m209.2.2.2.2.2.2.2.2 (xm_drop 40 xm_m209.2.2.2.2.2.2.2.2) = true by rw [xk_e209]; rfl))
theorem xk_p210_0 : xm_okP xm_m210 40 0 = true := by decide +kernel
theorem xk_e210 : xm_drop 40 xm_m210.2.2.2.2.2.2.2.2 = [] := by decide +kernel
theorem xk_ok210 : xm_okM xm_m210 = true := xl_okM (by decide +kernel) (by decide +kernel) (xl_okP (r := xm_m210) 40 0 xk_p210_0 (show xm_okC xm_m210.1 (decide (xm_m210.2.1.name = "<init>")) xm_m210.2.2.1 xm_m210.2.2.2.2.2.2.2.2 (xm_drop 40 xm_m210.2.2.2.2.2.2.2.2) = true by rw [xk_e210]; rfl))
theorem xk_p211_0 : xm_okP xm_m211 40 0 = true := by decide +kernel
theorem xk_e211 : xm_drop 40 xm_m211.2.2.2.2.2.2.2.2 = [] := by decide +kernel
theorem xk_ok211 : xm_okM xm_m211 = true := xl_okM (by decide +kernel) (by decide +kernel) (xl_okP (r := xm_m211) 40 0 xk_p211_0 (show xm_okC xm_m211.1 (decide (xm_m211.2.1.name = "<init>")) xm_m211.2.2.1 xm_m211.2.2.2.2.2.2.2.2 (xm_drop 40 xm_m211.2.2.2.2.2.2.2.2) = true by rw [xk_e211]; rfl))
theorem xk_p212_0 : xm_okP xm_m212 40 0 = true := by decide +kernel
theorem xk_e212 : xm_drop 40 xm_m212.2.2.2.2.2.2.2.2 = [] := by decide +kernel
theorem xk_ok212 : xm_okM xm_m212 = true := xl_okM (by decide +kernel) (by decide +kernel) (xl_okP (r := xm_m212) 40 0 xk_p212_0 (show xm_okC xm_m212.1 (decide (xm_m212.2.1.name = "<init>")) xm_m212.2.2.1 xm_m212.2.2.2.2.2.2.2.2 (xm_drop 40 xm_m212.2.2.2.2.2.2.2.2) = true by rw [xk_e212]; rfl))
theorem xk_p213_0 : xm_okP xm_m213 40 0 = true := by decide +kernel
theorem xk_e213 : xm_drop 40 xm_m213.2.2.2.2.2.2.2.2 = [] := by decide +kernel
theorem xk_ok213 : xm_okM xm_m213 = true := xl_okM (by decide +kernel) (by decide +kernel) (xl_okP (r := xm_m213) 40 0 xk_p213_0 (show xm_okC xm_m213.1 (decide (xm_m213.2.1.name = "<init>")) xm_m213.2.2.1 xm_m213.2.2.2.2.2.2.2.2 (xm_drop 40 xm_m213.2.2.2.2.2.2.2.2) = true by rw [xk_e213]; rfl))
theorem xk_p214_0 : xm_okP xm_m214 40 0 = true := by decide +kernel
theorem xk_e214 : xm_drop 40 xm_m214.2.2.2.2.2.2.2.2 = [] := by decide +kernel
theorem xk_ok214 : xm_okM xm_m214 = true := xl_okM (by decide +kernel) (by decide +kernel) (xl_okP (r := xm_m214) 40 0 xk_p214_0 (show xm_okC xm_m214.1 (decide (xm_m214.2.1.name = "<init>")) xm_m214.2.2.1 xm_m214.2.2.2.2.2.2.2.2 (xm_drop 40 xm_m214.2.2.2.2.2.2.2.2) = true by rw [xk_e214]; rfl))
theorem xk_p215_0 : xm_okP xm_m215 40 0 = true := by decide +kernel
theorem xk_p215_40 : xm_okP xm_m215 40 40 = true := by decide +kernel
theorem xk_p215_80 : xm_okP xm_m215 40 80 = true := by decide +kernel
theorem xk_e215 : xm_drop 120 xm_m215.2.2.2.2.2.2.2.2 = [] := by decide +kernel
theorem xk_ok215 : xm_okM xm_m215 = true := xl_okM (by decide +kernel) (by decide +kernel) (xl_okP (r := xm_m215) 40 0 xk_p215_0 (xl_okP (r := xm_m215) 40 40 xk_p215_40 (xl_okP (r := xm_m215) 40 80 xk_p215_80 (show xm_okC xm_m215.1 (decide (xm_m215.2.1.name = "<init>")) xm_m215.2.2.1 xm_m215.2.2.2.2.2.2.2.2 (xm_drop 120 xm_m215.2.2.2.2.2.2.2.2) = true by rw [xk_e215]; rfl))))
theorem xk_p216_0 : xm_okP xm_m216 40 0 = true := by decide +kernel
theorem xk_p216_40 : xm_okP xm_m216 40 40 = true := by decide +kernel
theorem xk_e216 : xm_drop 80 xm_m216.2.2.2.2.2.2.2.2 = [] := by decide +kernel
theorem xk_ok216 : xm_okM xm_m216 = true := xl_okM (by decide +kernel) (by decide +kernel) (xl_okP (r := xm_m216) 40 0 xk_p216_0 (xl_okP (r := xm_m216) 40 40 xk_p216_40 (show xm_okC xm_m216.1 (decide (xm_m216.2.1.name = "<init>")) xm_m216.2.2.1 xm_m216.2.2.2.2.2.2.2.2 (xm_drop 80 xm_m216.2.2.2.2.2.2.2.2) = true by rw [xk_e216]; rfl)))
theorem xk_p217_0 : xm_okP xm_m217 40 0 = true := by decide +kernel
theorem xk_e217 : xm_drop 40 xm_m217.2.2.2.2.2.2.2.2 = [] := by decide +kernel
theorem xk_ok217 : xm_okM xm_m217 = true := xl_okM (by decide +kernel) (by decide +kernel) (xl_okP (r := xm_m217) 40 0 xk_p217_0 (show xm_okC xm_m217.1 (decide (xm_m217.2.1.name = "<init>")) xm_m217.2.2.1 xm_m217.2.2.2.2.2.2.2.2 (xm_drop 40 xm_m217.2.2.2.2.2.2.2.2) = true by rw [xk_e217]; rfl))
theorem xk_p218_0 : xm_okP xm_m218 40 0 = true := by decide +kernel
theorem xk_e218 : xm_drop 40 xm_m218.2.2.2.2.2.2.2.2 = [] := by decide +kernel
theorem xk_ok218 : xm_okM xm_m218 = true := xl_okM (by decide +kernel) (by decide +kernel) (xl_okP (r := xm_m218) 40 0 xk_p218_0 (show xm_okC xm_m218.1 (decide (xm_m218.2.1.name = "<init>")) xm_m218.2.2.1 xm_m218.2.2.2.2.2.2.2.2 (xm_drop 40 xm_m218.2.2.2.2.2.2.2.2) = true by rw [xk_e218]; rfl))
theorem xk_p219_0 : xm_okP xm_m219 40 0 = true := by decide +kernel
theorem xk_p219_40 : xm_okP xm_m219 40 40 = true := by decide +kernel
theorem xk_p219_80 : xm_okP xm_m219 40 80 = true := by decide +kernel
theorem xk_e219 : xm_drop 120 xm_m219.2.2.2.2.2.2.2.2 = [] := by decide +kernel
theorem xk_ok219 : xm_okM xm_m219 = true := xl_okM (by decide +kernel) (by decide +kernel) (xl_okP (r := xm_m219) 40 0 xk_p219_0 (xl_okP (r := xm_m219) 40 40 xk_p219_40 (xl_okP (r := xm_m219) 40 80 xk_p219_80 (show xm_okC xm_m219.1 (decide (xm_m219.2.1.name = "<init>")) xm_m219.2.2.1 xm_m219.2.2.2.2.2.2.2.2 (xm_drop 120 xm_m219.2.2.2.2.2.2.2.2) = true by rw [xk_e219]; rfl))))
theorem xk_p220_0 : xm_okP xm_m220 40 0 = true := by decide +kernel
theorem xk_p220_40 : xm_okP xm_m220 40 40 = true := by decide +kernel
theorem xk_e220 : xm_drop 80 xm_m220.2.2.2.2.2.2.2.2 = [] := by decide +kernel
theorem xk_ok220 : xm_okM xm_m220 = true := xl_okM (by decide +kernel) (by decide +kernel) (xl_okP (r := xm_m220) 40 0 xk_p220_0 (xl_okP (r := xm_m220) 40 40 xk_p220_40 (show xm_okC xm_m220.1 (decide (xm_m220.2.1.name = "<init>")) xm_m220.2.2.1 xm_m220.2.2.2.2.2.2.2.2 (xm_drop 80 xm_m220.2.2.2.2.2.2.2.2) = true by rw [xk_e220]; rfl)))
theorem xk_p221_0 : xm_okP xm_m221 40 0 = true := by decide +kernel
theorem xk_p221_40 : xm_okP xm_m221 40 40 = true := by decide +kernel
theorem xk_e221 : xm_drop 80 xm_m221.2.2.2.2.2.2.2.2 = [] := by decide +kernel
theorem xk_ok221 : xm_okM xm_m221 = true := xl_okM (by decide +kernel) (by decide +kernel) (xl_okP (r := xm_m221) 40 0 xk_p221_0 (xl_okP (r := xm_m221) 40 40 xk_p221_40 (show xm_okC xm_m221.1 (decide (xm_m221.2.1.name = "<init>")) xm_m221.2.2.1 xm_m221.2.2.2.2.2.2.2.2 (xm_drop 80 xm_m221.2.2.2.2.2.2.2.2) = true by rw [xk_e221]; rfl)))
theorem xk_p222_0 : xm_okP xm_m222 40 0 = true := by decide +kernel
theorem xk_e222 : xm_drop 40 xm_m222.2.2.2.2.2.2.2.2 = [] := by decide +kernel
theorem xk_ok222 : xm_okM xm_m222 = true := xl_okM (by decide +kernel) (by decide +kernel) (xl_okP (r := xm_m222) 40 0 xk_p222_0 (show xm_okC xm_m222.1 (decide (xm_m222.2.1.name = "<init>")) xm_m222.2.2.1 xm_m222.2.2.2.2.2.2.2.2 (xm_drop 40 xm_m222.2.2.2.2.2.2.2.2) = true by rw [xk_e222]; rfl))
theorem xk_p223_0 : xm_okP xm_m223 40 0 = true := by decide +kernel
theorem xk_p223_40 : xm_okP xm_m223 40 40 = true := by decide +kernel
theorem xk_e223 : xm_drop 80 xm_m223.2.2.2.2.2.2.2.2 = [] := by decide +kernel
theorem xk_ok223 : xm_okM xm_m223 = true := xl_okM (by decide +kernel) (by decide +kernel) (xl_okP (r := xm_m223) 40 0 xk_p223_0 (xl_okP (r := xm_m223) 40 40 xk_p223_40 (show xm_okC xm_m223.1 (decide (xm_m223.2.1.name = "<init>")) xm_m223.2.2.1 xm_m223.2.2.2.2.2.2.2.2 (xm_drop 80 xm_m223.2.2.2.2.2.2.2.2) = true by rw [xk_e223]; rfl)))
theorem xk_p224_0 : xm_okP xm_m224 40 0 = true := by decide +kernel
theorem xk_p224_40 : xm_okP xm_m224 40 40 = true := by decide +kernel
theorem xk_e224 : xm_drop 80 xm_m224.2.2.2.2.2.2.2.2 = [] := by decide +kernel
theorem xk_ok224 : xm_okM xm_m224 = true := xl_okM (by decide +kernel) (by decide +kernel) (xl_okP (r := xm_m224) 40 0 xk_p224_0 (xl_okP (r := xm_m224) 40 40 xk_p224_40 (show xm_okC xm_m224.1 (decide (xm_m224.2.1.name = "<init>")) xm_m224.2.2.1 xm_m224.2.2.2.2.2.2.2.2 (xm_drop 80 xm_m224.2.2.2.2.2.2.2.2) = true by rw [xk_e224]; rfl)))
theorem xk_p225_0 : xm_okP xm_m225 40 0 = true := by decide +kernel
theorem xk_p225_40 : xm_okP xm_m225 40 40 = true := by decide +kernel
theorem xk_e225 : xm_drop 80 xm_m225.2.2.2.2.2.2.2.2 = [] := by decide +kernel
theorem xk_ok225 : xm_okM xm_m225 = true := xl_okM (by decide +kernel) (by decide +kernel) (xl_okP (r := xm_m225) 40 0 xk_p225_0 (xl_okP (r := xm_m225) 40 40 xk_p225_40 (show xm_okC xm_m225.1 (decide (xm_m225.2.1.name = "<init>")) xm_m225.2.2.1 xm_m225.2.2.2.2.2.2.2.2 (xm_drop 80 xm_m225.2.2.2.2.2.2.2.2) = true by rw [xk_e225]; rfl)))
theorem xk_p226_0 : xm_okP xm_m226 40 0 = true := by decide +kernel
theorem xk_p226_40 : xm_okP xm_m226 40 40 = true := by decide +kernel
theorem xk_p226_80 : xm_okP xm_m226 40 80 = true := by decide +kernel
theorem xk_e226 : xm_drop 120 xm_m226.2.2.2.2.2.2.2.2 = [] := by decide +kernel
theorem xk_ok226 : xm_okM xm_m226 = true := xl_okM (by decide +kernel) (by decide +kernel) (xl_okP (r := xm_m226) 40 0 xk_p226_0 (xl_okP (r := xm_m226) 40 40 xk_p226_40 (xl_okP (r := xm_m226) 40 80 xk_p226_80 (show xm_okC xm_m226.1 (decide (xm_m226.2.1.name = "<init>")) xm_m226.2.2.1 xm_m226.2.2.2.2.2.2.2.2 (xm_drop 120 xm_m226.2.2.2.2.2.2.2.2) = true by rw [xk_e226]; rfl))))
theorem xk_p227_0 : xm_okP xm_m227 40 0 = true := by decide +kernel
theorem xk_e227 : xm_drop 40 xm_m227.2.2.2.2.2.2.2.2 = [] := by decide +kernel
theorem xk_ok227 : xm_okM xm_m227 = true := xl_okM (by decide +kernel) (by decide +kernel) (xl_okP (r := xm_m227) 40 0 xk_p227_0 (show xm_okC xm_m227.1 (decide (xm_m227.2.1.name = "<init>")) xm_m227.2.2.1 xm_m227.2.2.2.2.2.2.2.2 (xm_drop 40 xm_m227.2.2.2.2.2.2.2.2) = true by rw [xk_e227]; rfl))
theorem xk_p228_0 : xm_okP xm_m228 40 0 = true := by decide +kernel
theorem xk_e228 : xm_drop 40 xm_m228.2.2.2.2.2.2.2.2 = [] := by decide +kernel
theorem xk_ok228 : xm_okM xm_m228 = true := xl_okM (by decide +kernel) (by decide +kernel) (xl_okP (r := xm_m228) 40 0 xk_p228_0 (show xm_okC xm_m228.1 (decide (xm_m228.2.1.name = "<init>")) xm_m228.2.2.1 xm_m228.2.2.2.2.2.2.2.2 (xm_drop 40 xm_m228.2.2.2.2.2.2.2.2) = true by rw [xk_e228]; rfl))
theorem xk_p229_0 : xm_okP xm_m229 40 0 = true := by decide +kernel
theorem xk_e229 : xm_drop 40 xm_m229.2.2.2.2.2.2.2.2 = [] := by decide +kernel
theorem xk_ok229 : xm_okM xm_m229 = true := xl_okM (by decide +kernel) (by decide +kernel) (xl_okP (r := xm_m229) 40 0 xk_p229_0 (show xm_okC xm_m229.1 (decide (xm_m229.2.1.name = "<init>")) xm_m229.2.2.1 xm_m229.2.2.2.2.2.2.2.2 (xm_drop 40 xm_m229.2.2.2.2.2.2.2.2) = true by rw [xk_e229]; rfl))
theorem xk_p230_0 : xm_okP xm_m230 40 0 = true := by decide +kernel
theorem xk_p230_40 : xm_okP xm_m230 40 40 = true := by decide +kernel
theorem xk_e230 : xm_drop 80 xm_m230.2.2.2.2.2.2.2.2 = [] := by decide +kernel
theorem xk_ok230 : xm_okM xm_m230 = true := xl_okM (by decide +kernel) (by decide +kernel) (xl_okP (r := xm_m230) 40 0 xk_p230_0 (xl_okP (r := xm_m230) 40 40 xk_p230_40 (show xm_okC xm_m230.1 (decide (xm_m230.2.1.name = "<init>")) xm_m230.2.2.1 xm_m230.2.2.2.2.2.2.2.2 (xm_drop 80 xm_m230.2.2.2.2.2.2.2.2) = true by rw [xk_e230]; rfl)))
theorem xk_p231_0 : xm_okP xm_m231 40 0 = true := by decide +kernel
theorem xk_e231 : xm_drop 40 xm_m231.2.2.2.2.2.2.2.2 = [] := by decide +kernel
theorem xk_ok231 : xm_okM xm_m231 = true := xl_okM (by decide +kernel) (by decide +kernel) (xl_okP (r := xm_m231) 40 0 xk_p231_0 (show xm_okC xm_m231.1 (decide (xm_m231.2.1.name = "<init>")) xm_m231.2.2.1 xm_m231.2.2.2.2.2.2.2.2 (xm_drop 40 xm_m231.2.2.2.2.2.2.2.2) = true by rw [xk_e231]; rfl))
theorem xk_p232_0 : xm_okP xm_m232 40 0 = true := by decide +kernel
theorem xk_e232 : xm_drop 40 xm_m232.2.2.2.2.2.2.2.2 = [] := by decide +kernel
theorem xk_ok232 : xm_okM xm_m232 = true := xl_okM (by decide +kernel) (by decide +kernel) (xl_okP (r := xm_m232) 40 0 xk_p232_0 (show xm_okC xm_m232.1 (decide (xm_m232.2.1.name = "<init>")) xm_m232.2.2.1 xm_m232.2.2.2.2.2.2.2.2 (xm_drop 40 xm_m232.2.2.2.2.2.2.2.2) = true by rw [xk_e232]; rfl))
theorem xk_p233_0 : xm_okP xm_m233 40 0 = true := by decide +kernel
theorem xk_e233 : xm_drop 40 xm_m233.2.2.2.2.2.2.2.2 = [] := by decide +kernel
theorem xk_ok233 : xm_okM xm_m233 = true := xl_okM (by decide +kernel) (by decide +kernel) (xl_okP (r := xm_m233) 40 0 xk_p233_0 (show xm_okC xm_m233.1 (decide (xm_m233.2.1.name = "<init>")) xm_m233.2.2.1 xm_m233.2.2.2.2.2.2.2.2 (xm_drop 40 xm_m233.2.2.2.2.2.2.2.2) = true by rw [xk_e233]; rfl))
theorem xk_p234_0 : xm_okP xm_m234 40 0 = true := by decide +kernel
theorem xk_p234_40 : xm_okP xm_m234 40 40 = true := by decide +kernel
theorem xk_p234_80 : xm_okP xm_m234 40 80 = true := by decide +kernel
theorem xk_e234 : xm_drop 120 xm_m234.2.2.2.2.2.2.2.2 = [] := by decide +kernel
theorem xk_ok234 : xm_okM xm_m234 = true := xl_okM (by decide +kernel) (by decide +kernel) (xl_okP (r := xm_m234) 40 0 xk_p234_0 (xl_okP (r := xm_m234) 40 40 xk_p234_40 (xl_okP (r := xm_m234) 40 80 xk_p234_80 (show xm_okC xm_m234.1 (decide (xm_m234.2.1.name = "<init>")) xm_m234.2.2.1 xm_m234.2.2.2.2.2.2.2.2 (xm_drop 120 xm_m234.2.2.2.2.2.2.2.2) = true by rw [xk_e234]; rfl))))
theorem xk_p235_0 : xm_okP xm_m235 40 0 = true := by decide +kernel
theorem xk_p235_40 : xm_okP xm_m235 40 40 = true := by decide +kernel
theorem xk_e235 : xm_drop 80 xm_m235.2.2.2.2.2.2.2.2 = [] := by decide +kernel
theorem xk_ok235 : xm_okM xm_m235 = true := xl_okM (by decide +kernel) (by decide +kernel) (xl_okP (r := xm_m235) 40 0 xk_p235_0 (xl_okP (r := xm_m235) 40 40 xk_p235_40 (show xm_okC xm_m235.1 (decide (xm_m235.2.1.name = "<init>")) xm_m235.2.2.1 xm_m235.2.2.2.2.2.2.2.2 (xm_drop 80 xm_m235.2.2.2.2.2.2.2.2) = true by rw [xk_e235]; rfl)))
theorem xk_p236_0 : xm_okP xm_m236 40 0 = true := by decide +kernel
theorem xk_p236_40 : xm_okP xm_m236 40 40 = true := by decide +kernel
theorem xk_e236 : xm_drop 80 xm_m236.2.2.2.2.2.2.2.2 = [] := by decide +kernel
theorem xk_ok236 : xm_okM xm_m236 = true := xl_okM (by decide +kernel) (by decide +kernel) (xl_okP (r := xm_m236) 40 0 xk_p236_0 (xl_okP (r := xm_m236) 40 40 xk_p236_40 (show xm_okC xm_m236.1 (decide (xm_m236.2.1.name = "<init>")) xm_m236.2.2.1 xm_m236.2.2.2.2.2.2.2.2 (xm_drop 80 xm_m236.2.2.2.2.2.2.2.2) = true by rw [xk_e236]; rfl)))
theorem xk_p237_0 : xm_okP xm_m237 40 0 = true := by decide +kernel
theorem xk_p237_40 : xm_okP xm_m237 40 40 = true := by decide +kernel
theorem xk_e237 : xm_drop 80 xm_m237.2.2.2.2.2.2.2.2 = [] := by decide +kernel
theorem xk_ok237 : xm_okM xm_m237 = true := xl_okM (by decide +kernel) (by decide +kernel) (xl_okP (r := xm_m237) 40 0 xk_p237_0 (xl_okP (r := xm_m237) 40 40 xk_p237_40 (show xm_okC xm_m237.1 (decide (xm_m237.2.1.name = "<init>")) xm_m237.2.2.1 xm_m237.2.2.2.2.2.2.2.2 (xm_drop 80 xm_m237.2.2.2.2.2.2.2.2) = true by rw [xk_e237]; rfl)))
theorem xk_p238_0 : xm_okP xm_m238 40 0 = true := by decide +kernel
theorem xk_p238_40 : xm_okP xm_m238 40 40 = true := by decide +kernel
theorem xk_e238 : xm_drop 80 xm_m238.2.2.2.2.2.2.2.2 = [] := by decide +kernel
theorem xk_ok238 : xm_okM xm_m238 = true := xl_okM (by decide +kernel) (by decide +kernel) (xl_okP (r := xm_m238) 40 0 xk_p238_0 (xl_okP (r := xm_m238) 40 40 xk_p238_40 (show xm_okC xm_m238.1 (decide (xm_m238.2.1.name = "<init>")) xm_m238.2.2.1 xm_m238.2.2.2.2.2.2.2.2 (xm_drop 80 xm_m238.2.2.2.2.2.2.2.2) = true by rw [xk_e238]; rfl)))
theorem xk_p239_0 : xm_okP xm_m239 40 0 = true := by decide +kernel
theorem xk_p239_40 : xm_okP xm_m239 40 40 = true := by decide +kernel
theorem xk_e239 : xm_drop 80 xm_m239.2.2.2.2.2.2.2.2 = [] := by decide +kernel
theorem xk_ok239 : xm_okM xm_m239 = true := xl_okM (by decide +kernel) (by decide +kernel) (xl_okP (r := xm_m239) 40 0 xk_p239_0 (xl_okP (r := xm_m239) 40 40 xk_p239_40 (show xm_okC xm_m239.1 (decide (xm_m239.2.1.name = "<init>")) xm_m239.2.2.1 xm_m239.2.2.2.2.2.2.2.2 (xm_drop 80 xm_m239.2.2.2.2.2.2.2.2) = true by rw [xk_e239]; rfl)))
theorem xk_p240_0 : xm_okP xm_m240 40 0 = true := by decide +kernel
theorem xk_e240 : xm_drop 40 xm_m240.2.2.2.2.2.2.2.2 = [] := by decide +kernel
theorem xk_ok240 : xm_okM xm_m240 = true := xl_okM (by decide +kernel) (by decide +kernel) (xl_okP (r := xm_m240) 40 0 xk_p240_0 (show xm_okC xm_m240.1 (decide (xm_m240.2.1.name = "<init>")) xm_m240.2.2.1 xm_m240.2.2.2.2.2.2.2.2 (xm_drop 40 xm_m240.2.2.2.2.2.2.2.2) = true by rw [xk_e240]; rfl))
end
section
set_option maxRecDepth 100000 in
theorem xk_okall : ∀ r ∈ xm_mtab, xm_okM r = true :=
  List.forall_mem_cons.mpr ⟨xk_ok0, List.forall_mem_cons.mpr ⟨xk_ok1, List.forall_mem_cons.mpr ⟨xk_ok2, List.forall_mem_cons.mpr ⟨xk_ok3, List.forall_mem_cons.mpr ⟨xk_ok4, List.forall_mem_cons.mpr ⟨xk_ok5, List.forall_mem_cons.mpr ⟨xk_ok6, List.forall_mem_cons.mpr ⟨xk_ok7, List.forall_mem_cons.mpr ⟨xk_ok8, List.forall_mem_cons.mpr ⟨xk_ok9, List.forall_mem_cons.mpr ⟨xk_ok10, List.forall_mem_cons.mpr ⟨xk_ok11, List.forall_mem_cons.mpr ⟨xk_ok12, List.forall_mem_cons.mpr ⟨xk_ok13, List.forall_mem_cons.mpr ⟨xk_ok14, List.forall_mem_cons.mpr ⟨xk_ok15, List.forall_mem_cons.mpr ⟨xk_ok16, List.forall_mem_cons.mpr ⟨xk_ok17, List.forall_mem_cons.mpr ⟨xk_ok18, List.forall_mem_cons.mpr ⟨xk_ok19, List.forall_mem_cons.mpr ⟨xk_ok20, List.forall_mem_cons.mpr ⟨xk_ok21, List.forall_mem_cons.mpr ⟨xk_ok22, List.forall_mem_cons.mpr ⟨xk_ok23, List.forall_mem_cons.mpr ⟨xk_ok24, List.forall_mem_cons.mpr ⟨xk_ok25, List.forall_mem_cons.mpr ⟨xk_ok26, List.forall_mem_cons.mpr ⟨xk_ok27, List.forall_mem_cons.mpr ⟨xk_ok28, List.forall_mem_cons.mpr ⟨xk_ok29, List.forall_mem_cons.mpr ⟨xk_ok30, List.forall_mem_cons.mpr ⟨xk_ok31, List.forall_mem_cons.mpr ⟨xk_ok32, List.forall_mem_cons.mpr ⟨xk_ok33, List.forall_mem_cons.mpr ⟨xk_ok34, List.forall_mem_cons.mpr ⟨xk_ok35, List.forall_mem_cons.mpr ⟨xk_ok36, List.forall_mem_cons.mpr ⟨xk_ok37, List.forall_mem_cons.mpr ⟨xk_ok38, List.forall_mem_cons.mpr ⟨xk_ok39, List.forall_mem_cons.mpr ⟨xk_ok40, List.forall_mem_cons.mpr ⟨xk_ok41, List.forall_mem_cons.mpr ⟨xk_ok42, List.forall_mem_cons.mpr ⟨xk_ok43, List.forall_mem_cons.mpr ⟨xk_ok44, List.forall_mem_cons.mpr ⟨xk_ok45, List.forall_mem_cons.mpr ⟨xk_ok46, List.forall_mem_cons.mpr ⟨xk_ok47, List.forall_mem_cons.mpr ⟨xk_ok48, List.forall_mem_cons.mpr ⟨xk_ok49, List.forall_mem_cons.mpr ⟨xk_ok50, List.forall_mem_cons.mpr ⟨xk_ok51, List.forall_mem_cons.mpr ⟨xk_ok52, List.forall_mem_cons.mpr ⟨xk_ok53, List.forall_mem_cons.mpr ⟨xk_ok54, List.forall_mem_cons.mpr ⟨xk_ok55, List.forall_mem_cons.mpr ⟨xk_ok56, List.forall_mem_cons.mpr ⟨xk_ok57, List.forall_mem_cons.mpr ⟨xk_ok58, List.forall_mem_cons.mpr ⟨xk_ok59, List.forall_mem_cons.mpr ⟨xk_ok60, List.forall_mem_cons.mpr ⟨xk_ok61, List.forall_mem_cons.mpr ⟨xk_ok62, List.forall_mem_cons.mpr ⟨xk_ok63, List.forall_mem_cons.mpr ⟨xk_ok64, List.forall_mem_cons.mpr ⟨xk_ok65, List.forall_mem_cons.mpr ⟨xk_ok66, List.forall_mem_cons.mpr ⟨xk_ok67, List.forall_mem_cons.mpr ⟨xk_ok68, List.forall_mem_cons.mpr ⟨xk_ok69, List.forall_mem_cons.mpr ⟨xk_ok70, List.forall_mem_cons.mpr ⟨xk_ok71, List.forall_mem_cons.mpr ⟨xk_ok72, List.forall_mem_cons.mpr ⟨xk_ok73, List.forall_mem_cons.mpr ⟨xk_ok74, List.forall_mem_cons.mpr ⟨xk_ok75, List.forall_mem_cons.mpr ⟨xk_ok76, List.forall_mem_cons.mpr ⟨xk_ok77, List.forall_mem_cons.mpr ⟨xk_ok78, List.forall_mem_cons.mpr ⟨xk_ok79, List.forall_mem_cons.mpr ⟨xk_ok80, List.forall_mem_cons.mpr ⟨xk_ok81, List.forall_mem_cons.mpr ⟨xk_ok82, List.forall_mem_cons.mpr ⟨xk_ok83, List.forall_mem_cons.mpr ⟨xk_ok84, List.forall_mem_cons.mpr ⟨xk_ok85, List.forall_mem_cons.mpr ⟨xk_ok86, List.forall_mem_cons.mpr ⟨xk_ok87, List.forall_mem_cons.mpr ⟨xk_ok88, List.forall_mem_cons.mpr ⟨xk_ok89, List.forall_mem_cons.mpr ⟨xk_ok90, List.forall_mem_cons.mpr ⟨xk_ok91, List.forall_mem_cons.mpr ⟨xk_ok92, List.forall_mem_cons.mpr ⟨xk_ok93, List.forall_mem_cons.mpr ⟨xk_ok94, List.forall_mem_cons.mpr ⟨xk_ok95, List.forall_mem_cons.mpr ⟨xk_ok96, List.forall_mem_cons.mpr ⟨xk_ok97, List.forall_mem_cons.mpr ⟨xk_ok98, List.forall_mem_cons.mpr ⟨xk_ok99, List.forall_mem_cons.mpr ⟨xk_ok100, List.forall_mem_cons.mpr ⟨xk_ok101, List.forall_mem_cons.mpr ⟨xk_ok102, List.forall_mem_cons.mpr ⟨xk_ok103, List.forall_mem_cons.mpr ⟨xk_ok104, List.forall_mem_cons.mpr ⟨xk_ok105, List.forall_mem_cons.mpr ⟨xk_ok106, List.forall_mem_cons.mpr ⟨xk_ok107, List.forall_mem_cons.mpr ⟨xk_ok108, List.forall_mem_cons.mpr ⟨xk_ok109, List.forall_mem_cons.mpr ⟨xk_ok110, List.forall_mem_cons.mpr ⟨xk_ok111, List.forall_mem_cons.mpr ⟨xk_ok112, List.forall_mem_cons.mpr ⟨xk_ok113, List.forall_mem_cons.mpr ⟨xk_ok114, List.forall_mem_cons.mpr ⟨xk_ok115, List.forall_mem_cons.mpr ⟨xk_ok116, List.forall_mem_cons.mpr ⟨xk_ok117, List.forall_mem_cons.mpr ⟨xk_ok118, List.forall_mem_cons.mpr ⟨xk_ok119, List.forall_mem_cons.mpr ⟨xk_ok120, List.forall_mem_cons.mpr ⟨xk_ok121, List.forall_mem_cons.mpr ⟨xk_ok122, List.forall_mem_cons.mpr ⟨xk_ok123, List.forall_mem_cons.mpr ⟨xk_ok124, List.forall_mem_cons.mpr ⟨xk_ok125, List.forall_mem_cons.mpr ⟨xk_ok126, List.forall_mem_cons.mpr ⟨xk_ok127, List.forall_mem_cons.mpr ⟨xk_ok128, List.forall_mem_cons.mpr ⟨xk_ok129, List.forall_mem_cons.mpr ⟨xk_ok130, List.forall_mem_cons.mpr ⟨xk_ok131, List.forall_mem_cons.mpr ⟨xk_ok132, List.forall_mem_cons.mpr ⟨xk_ok133, List.forall_mem_cons.mpr ⟨xk_ok134, List.forall_mem_cons.mpr ⟨xk_ok135, List.forall_mem_cons.mpr ⟨xk_ok136, List.forall_mem_cons.mpr ⟨xk_ok137, List.forall_mem_cons.mpr ⟨xk_ok138, List.forall_mem_cons.mpr ⟨xk_ok139, List.forall_mem_cons.mpr ⟨xk_ok140, List.forall_mem_cons.mpr ⟨xk_ok141, List.forall_mem_cons.mpr ⟨xk_ok142, List.forall_mem_cons.mpr ⟨xk_ok143, List.forall_mem_cons.mpr ⟨xk_ok144, List.forall_mem_cons.mpr ⟨xk_ok145, List.forall_mem_cons.mpr ⟨xk_ok146, List.forall_mem_cons.mpr ⟨xk_ok147, List.forall_mem_cons.mpr ⟨xk_ok148, List.forall_mem_cons.mpr ⟨xk_ok149, List.forall_mem_cons.mpr ⟨xk_ok150, List.forall_mem_cons.mpr ⟨xk_ok151, List.forall_mem_cons.mpr ⟨xk_ok152, List.forall_mem_cons.mpr ⟨xk_ok153, List.forall_mem_cons.mpr ⟨xk_ok154, List.forall_mem_cons.mpr ⟨xk_ok155, List.forall_mem_cons.mpr ⟨xk_ok156, List.forall_mem_cons.mpr ⟨xk_ok157, List.forall_mem_cons.mpr ⟨xk_ok158, List.forall_mem_cons.mpr ⟨xk_ok159, List.forall_mem_cons.mpr ⟨xk_ok160, List.forall_mem_cons.mpr ⟨xk_ok161, List.forall_mem_cons.mpr ⟨xk_ok162, List.forall_mem_cons.mpr ⟨xk_ok163, List.forall_mem_cons.mpr ⟨xk_ok164, List.forall_mem_cons.mpr ⟨xk_ok165, List.forall_mem_cons.mpr ⟨xk_ok166, List.forall_mem_cons.mpr ⟨xk_ok167, List.forall_mem_cons.mpr ⟨xk_ok168, List.forall_mem_cons.mpr ⟨xk_ok169, List.forall_mem_cons.mpr ⟨xk_ok170, List.forall_mem_cons.mpr ⟨xk_ok171, List.forall_mem_cons.mpr ⟨xk_ok172, List.forall_mem_cons.mpr ⟨xk_ok173, List.forall_mem_cons.mpr ⟨xk_ok174, List.forall_mem_cons.mpr ⟨xk_ok175, List.forall_mem_cons.mpr ⟨xk_ok176, List.forall_mem_cons.mpr ⟨xk_ok177, List.forall_mem_cons.mpr ⟨xk_ok178, List.forall_mem_cons.mpr ⟨xk_ok179, List.forall_mem_cons.mpr ⟨xk_ok180, List.forall_mem_cons.mpr ⟨xk_ok181, List.forall_mem_cons.mpr ⟨xk_ok182, List.forall_mem_cons.mpr ⟨xk_ok183, List.forall_mem_cons.mpr ⟨xk_ok184, List.forall_mem_cons.mpr ⟨xk_ok185, List.forall_mem_cons.mpr ⟨xk_ok186, List.forall_mem_cons.mpr ⟨xk_ok187, List.forall_mem_cons.mpr ⟨xk_ok188, List.forall_mem_cons.mpr ⟨xk_ok189, List.forall_mem_cons.mpr ⟨xk_ok190, List.forall_mem_cons.mpr ⟨xk_ok191, List.forall_mem_cons.mpr ⟨xk_ok192, List.forall_mem_cons.mpr ⟨xk_ok193, List.forall_mem_cons.mpr ⟨xk_ok194, List.forall_mem_cons.mpr ⟨xk_ok195, List.forall_mem_cons.mpr ⟨xk_ok196, List.forall_mem_cons.mpr ⟨xk_ok197, List.forall_mem_cons.mpr ⟨xk_ok198, List.forall_mem_cons.mpr ⟨xk_ok199, List.forall_mem_cons.mpr ⟨xk_ok200, List.forall_mem_cons.mpr ⟨xk_ok201, List.forall_mem_cons.mpr ⟨xk_ok202, List.forall_mem_cons.mpr ⟨xk_ok203, List.forall_mem_cons.mpr ⟨xk_ok204, List.forall_mem_cons.mpr ⟨xk_ok205, List.forall_mem_cons.mpr ⟨xk_ok206, List.forall_mem_cons.mpr ⟨xk_ok207, List.forall_mem_cons.mpr ⟨xk_ok208, List.forall_mem_cons.mpr ⟨xk_ok209, List.forall_mem_cons.mpr ⟨xk_ok210, List.forall_mem_cons.mpr ⟨xk_ok211, List.forall_mem_cons.mpr ⟨xk_ok212, List.forall_mem_cons.mpr ⟨xk_ok213, List.forall_mem_cons.mpr ⟨xk_ok214, List.forall_mem_cons.mpr ⟨xk_ok215, List.forall_mem_cons.mpr ⟨xk_ok216, List.forall_mem_cons.mpr ⟨xk_ok217, List.forall_mem_cons.mpr ⟨xk_ok218, List.forall_mem_cons.mpr ⟨xk_ok219, List.forall_mem_cons.mpr ⟨xk_ok220, List.forall_mem_cons.mpr ⟨xk_ok221, List.forall_mem_cons.mpr ⟨xk_ok222, List.forall_mem_cons.mpr ⟨xk_ok223, List.forall_mem_cons.mpr ⟨xk_ok224, List.forall_mem_cons.mpr ⟨xk_ok225, List.forall_mem_cons.mpr ⟨xk_ok226, List.forall_mem_cons.mpr ⟨xk_ok227, List.forall_mem_cons.mpr ⟨xk_ok228, List.forall_mem_cons.mpr ⟨xk_ok229, List.forall_mem_cons.mpr ⟨xk_ok230, List.forall_mem_cons.mpr ⟨xk_ok231, List.forall_mem_cons.mpr ⟨xk_ok232, List.forall_mem_cons.mpr ⟨xk_ok233, List.forall_mem_cons.mpr ⟨xk_ok234, List.forall_mem_cons.mpr ⟨xk_ok235, List.forall_mem_cons.mpr ⟨xk_ok236, List.forall_mem_cons.mpr ⟨xk_ok237, List.forall_mem_cons.mpr ⟨xk_ok238, List.forall_mem_cons.mpr ⟨xk_ok239, List.forall_mem_cons.mpr ⟨xk_ok240, fun _ h => absurd h List.not_mem_nil⟩⟩⟩⟩⟩⟩⟩⟩⟩⟩⟩⟩⟩⟩⟩⟩⟩⟩⟩⟩⟩⟩⟩⟩⟩⟩⟩⟩⟩⟩⟩⟩⟩⟩⟩⟩⟩⟩⟩⟩⟩⟩⟩⟩⟩⟩⟩⟩⟩⟩⟩⟩⟩⟩⟩⟩⟩⟩⟩⟩⟩⟩⟩⟩⟩⟩⟩⟩⟩⟩⟩⟩⟩⟩⟩⟩⟩⟩⟩⟩⟩⟩⟩⟩⟩⟩⟩⟩⟩⟩⟩⟩⟩⟩⟩⟩⟩⟩⟩⟩⟩⟩⟩⟩⟩⟩⟩⟩⟩⟩⟩⟩⟩⟩⟩⟩⟩⟩⟩⟩⟩⟩⟩⟩⟩⟩⟩⟩⟩⟩⟩⟩⟩⟩⟩⟩⟩⟩⟩⟩⟩⟩⟩⟩⟩⟩⟩⟩⟩⟩⟩⟩⟩⟩⟩⟩⟩⟩⟩⟩⟩⟩⟩⟩⟩⟩⟩⟩⟩⟩⟩⟩⟩⟩⟩⟩⟩⟩⟩⟩⟩⟩⟩⟩⟩⟩⟩⟩⟩⟩⟩⟩⟩⟩⟩⟩⟩⟩⟩⟩⟩⟩⟩⟩⟩⟩⟩⟩⟩⟩⟩⟩⟩⟩⟩⟩⟩⟩⟩⟩⟩⟩⟩⟩⟩⟩⟩⟩⟩⟩⟩⟩⟩⟩⟩⟩⟩⟩⟩⟩⟩
end
section
abbrev xm_C : Type := Nat → List Value → xm_H → xm_R → xm_Q → Bool
/-- may this be answered by a method of that kind -/
def xm_rok (ret : Option FieldType) (v : Value) : Bool := match ret with
  | some ty => xm_fit ty v
  | none => false
noncomputable def xm_rcv0 (cls : String) (G : xm_H) (As : List Value) : Bool := match As with
  | .ref j :: _ => (match xm_hget G j with
    | some (t, _) => (match xm_nth xm_cls t with
      | some (C, _, _) => decide (cls = C)
      | none => false)
    | none => false)
  | _ => false
def xm_rcv1 (As : List Value) : Bool := match As with
  | .ref _ :: _ => true
  | _ => false
noncomputable def xm_rcv (b : Nat) (cls : String) (G : xm_H) (As : List Value) : Bool := bif Nat.beq b 0 then xm_rcv0 cls G As else bif Nat.beq b 2 || Nat.beq b 4 then xm_rcv1 As else true
noncomputable def xm_call (call : xm_C) (mc ms a b : Nat) (st : List Value) (G : xm_H) (E : xm_R) (kc ks : Nat) (k : List Value → xm_H → xm_R → Nat → Nat → Bool) : Bool := match xm_nth xm_mtab a with
  | some (_, y, _, _, ret, n, mc1, ms1, _) =>
    bif Nat.ble (kc + mc1) mc && Nat.ble (ks + ms1) ms then
      xm_pop (bif Nat.beq b 1 || Nat.beq b 3 then n else Nat.succ n) [] st (fun As st =>
        bif Nat.ble (xm_cats st) 8 && xm_rcv b y.cls G As then
          call a As G E (fun r G E => k (match r with
            | some v => v :: st
            | none => st) G E (kc + mc1) (ks + ms1))
        else false)
    else false
  | none => false
noncomputable def xm_body (call : xm_C) (full : List xm_E) (nL mc ms : Nat) (ret : Option FieldType) (Q : xm_Q) (ih : List xm_E → xm_K) (e : xm_E) (rest : List xm_E) (lv : xm_L) (st : List Value) (G : xm_H) (E : xm_R) (kc ks : Nat) : Bool :=
  match e.2.1 with
  | .iconst _ | .bipush _ | .sipush _ | .lconst _ | .aconst_null | .ldc _ | .ldc_w _ | .ldc2_w _ => ih rest lv (e.2.2.2.2.2 :: st) G E kc ks
  | .iload _ | .iload_n _ => (match xm_get lv e.2.2.1 with
    | some w => bif xm_isI w then ih rest lv (w :: st) G E kc ks else false
    | none => false)
  | .lload _ | .lload_n _ => (match xm_get lv e.2.2.1 with
    | some w => bif xm_isL w then ih rest lv (w :: st) G E kc ks else false
    | none => false)
  | .aload _ | .aload_n _ => (match xm_get lv e.2.2.1 with
    | some w => bif xm_isA w then ih rest lv (w :: st) G E kc ks else false
    | none => false)
  | .istore _ | .istore_n _ => (match st with
    | w :: st => bif xm_isI w && Nat.blt e.2.2.1 nL then ih rest (xm_set1 lv e.2.2.1 w) st G E kc ks else false
    | _ => false)
  | .lstore _ | .lstore_n _ => (match st with
    | w :: st => bif xm_isL w && Nat.blt (e.2.2.1 + 1) nL then ih rest (xm_set2 lv e.2.2.1 w) st G E kc ks else false
    | _ => false)
  | .astore _ | .astore_n _ => (match st with
    | w :: st => bif xm_isA w && Nat.blt e.2.2.1 nL then ih rest (xm_set1 lv e.2.2.1 w) st G E kc ks else false
    | _ => false)
  | .iinc _ c => (match xm_get lv e.2.2.1 with
    | some w => bif Nat.blt e.2.2.1 nL then xm_conc E w (fun E x => xm_frc (x + Int32.ofInt c) (fun z => ih rest (xm_set1 lv e.2.2.1 (.int z)) st G E kc ks)) else false
    | none => false)
  | .iadd => xm_int2 .iadd st E (fun st E => ih rest lv st G E kc ks)
  | .isub => xm_int2 .isub st E (fun st E => ih rest lv st G E kc ks)
  | .imul => xm_int2 .imul st E (fun st E => ih rest lv st G E kc ks)
  | .iand => xm_iand st E (fun st E => ih rest lv st G E kc ks)
  | .ior => xm_int2 .ior st E (fun st E => ih rest lv st G E kc ks)
  | .ixor => xm_int2 .ixor st E (fun st E => ih rest lv st G E kc ks)
  | .ishl => xm_int2 .ishl st E (fun st E => ih rest lv st G E kc ks)
  | .ishr => xm_ishr st E (fun st E => ih rest lv st G E kc ks)
  | .iushr => xm_int2 .iushr st E (fun st E => ih rest lv st G E kc ks)
  | .idiv => xm_int2 .idiv st E (fun st E => ih rest lv st G E kc ks)
  | .irem => xm_int2 .irem st E (fun st E => ih rest lv st G E kc ks)
  | .ineg => (match st with
    | w :: st => xm_conc E w (fun E x => xm_frc (-x) (fun z => ih rest lv (.int z :: st) G E kc ks))
    | _ => false)
  | .i2b => xm_i2b st E (fun st E => ih rest lv st G E kc ks)
  | .i2l => xm_i2l st (fun st => ih rest lv st G E kc ks)
  | .l2i => (match st with
    | .long x :: st => xm_frc x.toInt32 (fun z => ih rest lv (.int z :: st) G E kc ks)
    | _ => false)
  | .ladd => xm_long2 .ladd st (fun st => ih rest lv st G E kc ks)
  | .lsub => xm_long2 .lsub st (fun st => ih rest lv st G E kc ks)
  | .lmul => xm_long2 .lmul st (fun st => ih rest lv st G E kc ks)
  | .land => xm_long2 .land st (fun st => ih rest lv st G E kc ks)
  | .lor => xm_long2 .lor st (fun st => ih rest lv st G E kc ks)
  | .ldiv => xm_long2 .ldiv st (fun st => ih rest lv st G E kc ks)
  | .lrem => xm_long2 .lrem st (fun st => ih rest lv st G E kc ks)
  | .lshl => (match st with
    | .int y :: .long x :: st => ih rest lv (.long (x <<< (y.toInt64 &&& 63)) :: st) G E kc ks
    | _ => false)
  | .lshr => (match st with
    | .int y :: .long x :: st => ih rest lv (.long (x >>> (y.toInt64 &&& 63)) :: st) G E kc ks
    | _ => false)
  | .lcmp => (match st with
    | w :: u :: st => xm_cmpL E u w (fun E s => ih rest lv (.int (Int32.ofInt s) :: st) G E kc ks)
    | _ => false)
  | .dup => (match st with
    | w :: st => bif xm_cat1 w then ih rest lv (w :: w :: st) G E kc ks else false
    | _ => false)
  | .pop => (match st with
    | w :: st => bif xm_cat1 w then ih rest lv st G E kc ks else false
    | _ => false)
  | .dup2 => (match st with
    | w :: u :: st => bif xm_cat1 w && xm_cat1 u then ih rest lv (w :: u :: w :: u :: st) G E kc ks else false
    | _ => false)
  | .goto _ => ih (xm_drop e.2.2.1 full) lv st G E kc ks
  | .ifCond c _ => (match st with
    | w :: st => xm_cmpI E w (.int 0) (fun E s => bif xm_holds c s then ih (xm_drop e.2.2.1 full) lv st G E kc ks else ih rest lv st G E kc ks)
    | _ => false)
  | .if_icmp c _ => (match st with
    | w :: u :: st => xm_cmpI E u w (fun E s => bif xm_holds c s then ih (xm_drop e.2.2.1 full) lv st G E kc ks else ih rest lv st G E kc ks)
    | _ => false)
  | .ifnull _ => (match st with
    | .ref _ :: st => ih rest lv st G E kc ks
    | .null :: st => ih (xm_drop e.2.2.1 full) lv st G E kc ks
    | _ => false)
  | .ifnonnull _ => (match st with
    | .ref _ :: st => ih (xm_drop e.2.2.1 full) lv st G E kc ks
    | .null :: st => ih rest lv st G E kc ks
    | _ => false)
  | .tableswitch _ lo _ _ => (match st with
    | w :: st => xm_table lo e.2.2.1 e.2.2.2.2.1 w E (fun E t => ih (xm_drop t full) lv st G E kc ks)
    | _ => false)
  | .lookupswitch _ ps => (match st with
    | .int x :: st => ih (xm_drop (xm_look e.2.2.1 ps.toList e.2.2.2.2.1 x.toInt) full) lv st G E kc ks
    | _ => false)
  | .iaload => xm_iald st G E (fun st E => ih rest lv st G E kc ks)
  | .baload => xm_bald st G E (fun st E => ih rest lv st G E kc ks)
  | .laload => xm_ald (fun t => Nat.beq t 102) st G E (fun st E => ih rest lv st G E kc ks)
  | .aaload => xm_ald xm_isAr st G E (fun st E => ih rest lv st G E kc ks)
  | .iastore => xm_ast (fun t => Nat.beq t 100) xm_kI st G E (fun st G E => ih rest lv st G E kc ks)
  | .bastore => xm_bast st G E (fun st G E => ih rest lv st G E kc ks)
  | .lastore => xm_ast (fun t => Nat.beq t 102) xm_kL st G E (fun st G E => ih rest lv st G E kc ks)
  | .aastore => xm_aast st G E (fun st G E => ih rest lv st G E kc ks)
  | .arraylength => xm_alen st G (fun st => ih rest lv st G E kc ks)
  | .newarray _ => xm_newa e.2.2.1 st G E kc ks mc ms (fun st G E kc ks => ih rest lv st G E kc ks)
  | .anewarray _ => xm_newa e.2.2.1 st G E kc ks mc ms (fun st G E kc ks => ih rest lv st G E kc ks)
  | .new _ => (match xm_nth xm_cls e.2.2.1 with
    | some (_, _, n) => bif Nat.ble (kc + 1) mc && Nat.ble (ks + n) ms then ih rest lv (.ref G.1 :: st) (xm_push G (e.2.2.1, xm_def e.2.2.1)) E (kc + 1) (ks + n) else false
    | none => false)
  | .getfield _ => xm_getf e.2.2.1 e.2.2.2.1 st G (fun st => ih rest lv st G E kc ks)
  | .putfield _ => (match st with
    | w :: .ref j :: st => (match xm_hget G j with
      | some (t, vs) => bif Nat.beq t e.2.2.1 && (Nat.ble 7 j && (xm_fit (xm_ty t e.2.2.2.1) w && Nat.blt e.2.2.2.1 (xm_len vs))) then ih rest lv st (xm_hput G j (t, xm_put w vs e.2.2.2.1)) E kc ks else false
      | none => false)
    | _ => false)
  | .invokevirtual _ => xm_call call mc ms e.2.2.1 0 st G E kc ks (fun st G E kc ks => ih rest lv st G E kc ks)
  | .invokestatic _ => bif Nat.beq e.2.2.1 1001 then xm_acopy st G (fun st G => ih rest lv st G E kc ks) else bif Nat.beq e.2.2.2.1 3 then xm_call call mc ms e.2.2.1 3 st G E kc ks (fun st G E kc ks => ih rest lv st G E kc ks) else xm_call call mc ms e.2.2.1 1 st G E kc ks (fun st G E kc ks => ih rest lv st G E kc ks)
  | .invokespecial _ => bif Nat.beq e.2.2.1 1000 then (match st with
      | .ref _ :: st => bif Nat.ble (xm_cats st) 8 then ih rest lv st G E kc ks else false
      | _ => false)
    else bif Nat.beq e.2.2.2.1 4 then xm_call call mc ms e.2.2.1 4 st G E kc ks (fun st G E kc ks => ih rest lv st G E kc ks) else xm_call call mc ms e.2.2.1 2 st G E kc ks (fun st G E kc ks => ih rest lv st G E kc ks)
  | .ireturn => (match st with
    | [w] => bif xm_isI w && (xm_rok ret w && (Nat.ble kc mc && Nat.ble ks ms)) then Q (some w) G E else false
    | _ => false)
  | .lreturn => (match st with
    | [w] => bif xm_isL w && (xm_rok ret w && (Nat.ble kc mc && Nat.ble ks ms)) then Q (some w) G E else false
    | _ => false)
  | .areturn => (match st with
    | [w] => bif xm_isA w && (xm_rok ret w && (Nat.ble kc mc && Nat.ble ks ms)) then Q (some w) G E else false
    | _ => false)
  | .return_ => (match st with
    | [] => bif ret.isNone && (Nat.ble kc mc && Nat.ble ks ms) then Q none G E else false
    | _ => false)
  | _ => false
noncomputable def xm_run (call : xm_C) (full : List xm_E) (nL mc ms : Nat) (ret : Option FieldType) (Q : xm_Q) (f : Nat) : List xm_E → xm_K :=
  Nat.rec (motive := fun _ => List xm_E → xm_K) (fun _ _ _ _ _ _ _ => false) (fun _ ih suf lv st G E kc ks => List.rec (motive := fun _ => Bool) false (fun e rest _ => xm_body call full nL mc ms ret Q ih e rest lv st G E kc ks) suf) f
noncomputable def xm_exec (d : Nat) : xm_C :=
  Nat.rec (motive := fun _ => xm_C) (fun _ _ _ _ _ => false) (fun _ ih a As G E Q => match xm_nth xm_mtab a with
    | some (_, _, _, nL, ret, _, mc, ms, c) => bif xm_nx c 0 && Nat.ble (xm_cats As) nL then xm_run ih c nL mc ms ret Q 1000000 c (lv_args 0 As) [] G E 0 0 else false
    | none => false) d
/-- the script's cell, and the strings -/
def xm_G0 : xm_H := (7, [[some (300, []), some (200, []), some (201, []), some (202, []), some (203, []), some (204, []), some (205, [])]])
def xm_E0 : xm_R := [(-2147483648, 2147483647), (-2147483648, 2147483647), (-2147483648, 2147483647), (-2147483648, 2147483647), (-2147483648, 2147483647), (-2147483648, 2147483647), (0, 6)]
end
section
/-! what a value of the machine stands for -/
/-- what is fixed for a run: class numbers and slots, array classes, where the heap began, the cells that were there ahead of it, the script's numbers, the script's cell -/
abbrev xs_Z : Type := va_G × (Nat → ClassId) × Nat × (Nat → Nat) × (Nat → Int32) × Cell
abbrev xs_n (Z : xs_Z) : Nat → Int32 := Z.2.2.2.2.1
abbrev xs_b (Z : xs_Z) : Nat := Z.2.2.1
def xs_rho (Z : xs_Z) (j : Nat) : Nat := if j < 7 then Z.2.2.2.1 j else xs_b Z + (j - 7)
def xs_sh (xs : Nat → Int32) (n : Nat) : Int32 := if n / 32 % 2 = 1 then (xs (n / 64) >>> (Int32.ofNat (n % 32) &&& 31)).toInt8.toInt32 else xs (n / 64) >>> (Int32.ofNat (n % 32) &&& 31)
def xs_cv (Z : xs_Z) (v : Value) : Value := match v with
  | .ref j => .ref (xs_rho Z j)
  | .retAddr k => .int (xs_n Z k)
  | .double u => .long (xs_n Z u.toNat).toInt64
  | .float u => .int (xs_sh (xs_n Z) u.toNat)
  | .int x => .int x
  | .long x => .long x
  | .null => .null
def xs_cvp (Z : xs_Z) (q : Nat × Value) : Nat × Value := (q.1, xs_cv Z q.2)
def xs_sat (Z : xs_Z) (E : xm_R) : Prop := ∀ (i : Nat) (lo hi : Int), E[i]? = some (lo, hi) → lo ≤ (xs_n Z i).toInt ∧ (xs_n Z i).toInt ≤ hi
section XS
variable {Z : xs_Z} {E : xm_R}
theorem xs_cat (v : Value) : (xs_cv Z v).category = v.category := by cases v <;> rfl
theorem xs_cat2 (v : Value) : v.category = cond (xm_isL v) 2 1 := by cases v <;> rfl
theorem xs_cat1 {v : Value} (h : xm_cat1 v = true) : (xs_cv Z v).category = 1 := by
  rw [xs_cat, xs_cat2]
  unfold xm_cat1 at h
  cases hl : xm_isL v with
  | true => rw [hl] at h; cases h
  | false => rfl
theorem xs_I {v : Value} (h : xm_isI v = true) : ∃ x, xs_cv Z v = .int x := by
  cases v <;> first | exact ⟨_, rfl⟩ | cases h
theorem xs_L {v : Value} (h : xm_isL v = true) : ∃ x, xs_cv Z v = .long x := by
  cases v <;> first | exact ⟨_, rfl⟩ | cases h
theorem xs_A {v : Value} (h : xm_isA v = true) : (v = .null ∧ xs_cv Z v = .null) ∨ ∃ j, v = .ref j ∧ xs_cv Z v = .ref (xs_rho Z j) := by
  cases v <;> first | exact Or.inl ⟨rfl, rfl⟩ | exact Or.inr ⟨_, rfl, rfl⟩ | cases h
theorem xs_sat_put {i : Nat} {lo hi : Int} (h : xs_sat Z E) (h1 : lo ≤ (xs_n Z i).toInt) (h2 : (xs_n Z i).toInt ≤ hi) : xs_sat Z (xm_put (lo, hi) E i) := by
  intro j l k hj
  rw [xl_put, List.getElem?_set] at hj
  by_cases e : i = j
  · subst e
    simp only [if_true] at hj
    split at hj
    · cases hj
      exact ⟨h1, h2⟩
    · cases hj
  · rw [if_neg e] at hj
    exact h j l k hj
theorem xs_conc {v : Value} {k : xm_R → Int32 → Bool} (h : xm_conc E v k = true) (hs : xs_sat Z E) : ∃ E' x, k E' x = true ∧ xs_sat Z E' ∧ xs_cv Z v = .int x := by
  cases v with
  | int x => exact ⟨E, x, h, hs, rfl⟩
  | retAddr i =>
    have h : (match xm_nth E i with
      | some (lo, hi) => cond (decide (hi - lo < 16)) (xm_all lo (hi - lo + 1).toNat (fun c => k (xm_put (c, c) E i) (Int32.ofInt c))) false
      | none => false) = true := h
    rw [xl_nth] at h
    cases hE : E[i]? with
    | none => rw [hE] at h; cases h
    | some q =>
      obtain ⟨lo, hi⟩ := q
      rw [hE] at h
      have hb := hs i lo hi hE
      cases hd : decide (hi - lo < 16) with
      | false =>
        simp only [hd, cond_false] at h
        cases h
      | true =>
        simp only [hd, cond_true] at h
        have h1 := xl_all h (xs_n Z i).toInt hb.1 (by omega)
        refine ⟨_, _, h1, xs_sat_put hs (Int.le_refl _) (Int.le_refl _), ?_⟩
        show Value.int (xs_n Z i) = .int (Int32.ofInt (xs_n Z i).toInt)
        rw [Int32.ofInt_toInt]
  | _ => cases h
theorem xs_split {i : Nat} {c : Int} {k : xm_R → Int → Bool} (h : xm_split E i c k = true) (hs : xs_sat Z E) : ∃ E', k E' (xm_sgn (xs_n Z i).toInt c) = true ∧ xs_sat Z E' := by
  unfold xm_split at h
  rw [xl_nth] at h
  cases hE : E[i]? with
  | none => rw [hE] at h; cases h
  | some q =>
    obtain ⟨lo, hi⟩ := q
    rw [hE] at h
    have hb := hs i lo hi hE
    simp only [Bool.and_eq_true] at h
    obtain ⟨h1, h2, h3⟩ := h
    unfold xm_sgn
    by_cases a : (xs_n Z i).toInt < c
    · have a1 : decide (lo < c) = true := decide_eq_true (by omega)
      rw [a1] at h1
      rw [decide_eq_true a]
      exact ⟨_, h1, xs_sat_put hs hb.1 (by omega)⟩
    · rw [decide_eq_false a]
      by_cases b : (xs_n Z i).toInt = c
      · have a1 : (decide (lo ≤ c) && decide (c ≤ hi)) = true := by
          rw [decide_eq_true (by omega), decide_eq_true (by omega)]; rfl
        rw [a1] at h2
        rw [decide_eq_true b]
        exact ⟨_, h2, xs_sat_put hs (by omega) (by omega)⟩
      · have a1 : decide (c < hi) = true := decide_eq_true (by omega)
        rw [a1] at h3
        rw [decide_eq_false b]
        exact ⟨_, h3, xs_sat_put hs (by omega) hb.2⟩
theorem xs_sgn_neg (a b : Int) : - xm_sgn a b = xm_sgn b a := by
  unfold xm_sgn
  by_cases h1 : a < b
  · rw [decide_eq_true h1, decide_eq_false (show ¬ b < a by omega), decide_eq_false (show ¬ b = a by omega)]
    rfl
  · rw [decide_eq_false h1]
    by_cases h2 : a = b
    · rw [decide_eq_true h2, decide_eq_false (show ¬ b < a by omega), decide_eq_true h2.symm]
      rfl
    · rw [decide_eq_false h2, decide_eq_true (show b < a by omega)]
      rfl
theorem xs_cmpI {v w : Value} {k : xm_R → Int → Bool} (h : xm_cmpI E v w k = true) (hs : xs_sat Z E) : ∃ E' x y, k E' (xm_sgn (Int32.toInt x) (Int32.toInt y)) = true ∧ xs_sat Z E' ∧ xs_cv Z v = .int x ∧ xs_cv Z w = .int y := by
  cases v with
  | int x =>
    cases w with
    | int y => exact ⟨E, x, y, h, hs, rfl, rfl⟩
    | retAddr j =>
      have h : xm_split E j x.toInt (fun E s => k E (-s)) = true := h
      obtain ⟨E', h1, h2⟩ := xs_split h hs
      rw [xs_sgn_neg] at h1
      exact ⟨E', x, xs_n Z j, h1, h2, rfl, rfl⟩
    | _ => cases h
  | retAddr i =>
    cases w with
    | int y =>
      have h : xm_split E i y.toInt k = true := h
      obtain ⟨E', h1, h2⟩ := xs_split h hs
      exact ⟨E', xs_n Z i, y, h1, h2, rfl, rfl⟩
    | retAddr j =>
      have h7 : (bif Nat.beq i j then k E 0 else false) = true := h
      cases hb : Nat.beq i j with
      | false => rw [hb] at h7; cases h7
      | true =>
        rw [hb] at h7
        have h8 : k E 0 = true := h7
        have e := Nat.eq_of_beq_eq_true hb
        subst e
        refine ⟨E, xs_n Z i, xs_n Z i, ?_, hs, rfl, rfl⟩
        have : xm_sgn (xs_n Z i).toInt (xs_n Z i).toInt = 0 := by
          unfold xm_sgn
          rw [decide_eq_false (Int.lt_irrefl _), decide_eq_true rfl]
          rfl
        rw [this]
        exact h8
    | _ => cases h
  | _ => cases w <;> cases h
theorem xs_i64 (x : Int32) : x.toInt64.toInt = x.toInt := by simp
theorem xs_cmpL {v w : Value} {k : xm_R → Int → Bool} (h : xm_cmpL E v w k = true) (hs : xs_sat Z E) : ∃ E' x y, k E' (xm_sgn (Int64.toInt x) (Int64.toInt y)) = true ∧ xs_sat Z E' ∧ xs_cv Z v = .long x ∧ xs_cv Z w = .long y := by
  cases v with
  | long x =>
    cases w with
    | long y => exact ⟨E, x, y, h, hs, rfl, rfl⟩
    | double j =>
      have h : xm_split E j.toNat x.toInt (fun E s => k E (-s)) = true := h
      obtain ⟨E', h1, h2⟩ := xs_split h hs
      rw [xs_sgn_neg] at h1
      exact ⟨E', x, (xs_n Z j.toNat).toInt64, by rw [xs_i64]; exact h1, h2, rfl, rfl⟩
    | _ => cases h
  | double i =>
    cases w with
    | long y =>
      have h : xm_split E i.toNat y.toInt k = true := h
      obtain ⟨E', h1, h2⟩ := xs_split h hs
      exact ⟨E', (xs_n Z i.toNat).toInt64, y, by rw [xs_i64]; exact h1, h2, rfl, rfl⟩
    | _ => cases h
  | _ => cases w <;> cases h
theorem xs_set1 (l : xm_L) (i : Nat) (v : Value) : (xm_set1 l i v).map (xs_cvp Z) = (i, xs_cv Z v) :: (l.map (xs_cvp Z)).filter (fun q => !(q.1 == i) && !(q.1 + 1 == i && q.2.category == 2)) := by
  unfold xm_set1
  rw [List.map_cons, List.filter_map]
  congr 2
  apply List.filter_congr
  intro q _
  show _ = (!(q.1 == i) && !(q.1 + 1 == i && (xs_cv Z q.2).category == 2))
  rw [xs_cat]
theorem xs_set2 (l : xm_L) (i : Nat) (v : Value) : (xm_set2 l i v).map (xs_cvp Z) = (i, xs_cv Z v) :: (l.map (xs_cvp Z)).filter (fun q => !(q.1 == i) && (!(q.1 == i + 1) && !(q.1 + 1 == i && q.2.category == 2))) := by
  unfold xm_set2
  rw [List.map_cons, List.filter_map]
  congr 2
  apply List.filter_congr
  intro q _
  show _ = (!(q.1 == i) && (!(q.1 == i + 1) && !(q.1 + 1 == i && (xs_cv Z q.2).category == 2)))
  rw [xs_cat]
theorem xs_get {ls : Array Slot} {nL : Nat} {l : xm_L} {i : Nat} {w : Value} (h : lv_has ls nL (l.map (xs_cvp Z))) (hw : xm_get l i = some w) : ls[i]? = some (.val (xs_cv Z w)) :=
  h.2.2 (i, xs_cv Z w) (List.mem_map.mpr ⟨(i, w), xl_get l i w hw, rfl⟩)
theorem xs_getk {l : xm_L} {i : Nat} {w : Value} (hw : xm_get l i = some w) : ∃ k : Nat, (l.map (xs_cvp Z))[k]? = some (i, xs_cv Z w) := by
  have : (i, xs_cv Z w) ∈ l.map (xs_cvp Z) := List.mem_map.mpr ⟨(i, w), xl_get l i w hw, rfl⟩
  obtain ⟨k, hk⟩ := List.getElem?_of_mem this
  exact ⟨k, hk⟩
theorem xs_cats (st : List Value) : ((st.map (xs_cv Z)).map fun v => v.category).sum = xm_cats st := by
  induction st with
  | nil => rfl
  | cons v st ih =>
    rw [List.map_cons, List.map_cons, List.sum_cons, ih, xs_cat, xs_cat2]
    rfl
theorem xs_args (Zz : xs_Z) : ∀ (vs : List Value) (i : Nat), (lv_args i vs).map (xs_cvp Zz) = lv_args i (vs.map (xs_cv Zz))
  | [], i => rfl
  | v :: vs, i => by
    show (i, xs_cv Zz v) :: (lv_args (if v.category = 2 then i + 2 else i + 1) vs).map (xs_cvp Zz) = (i, xs_cv Zz v) :: lv_args (if (xs_cv Zz v).category = 2 then i + 2 else i + 1) (vs.map (xs_cv Zz))
    rw [xs_args Zz vs, xs_cat]
end XS
end
section
/-! the heap as the picture has it -/
def xs_tys (Z : xs_Z) : List (ClassId × FieldType) := [(Z.2.1 0, .int), (Z.2.1 1, .byte), (Z.2.1 2, .long), (Z.2.1 3, .boolean), (Z.2.1 4, .object "StairNews$Rule"), (Z.2.1 5, .object "StairNews$Folk"), (Z.2.1 6, .object "StairNews$Lore"), (Z.2.1 7, .object "StairNews$Scene")]
def xs_at (Z : xs_Z) (j : Nat) (o : xm_O) (H : Heap) : Prop :=
  (∃ r, xm_cls[o.1]? = some r ∧ o.2.length = r.2.2 ∧ t_OB (xs_rho Z j) (Z.1.1 o.1) r.2.2 (Z.1.2 o.1) H (fun k => xs_cv Z (o.2.getD k .null))) ∨
  (100 ≤ o.1 ∧ o.1 < 108 ∧ H[xs_rho Z j]? = some (arrV (Z.2.1 (o.1 - 100)) o.2.length (fun k => xs_cv Z (o.2.getD k .null)))) ∨
  (o.1 = 300 ∧ j = 0 ∧ H[xs_rho Z j]? = some Z.2.2.2.2.2) ∨ (200 ≤ o.1 ∧ o.1 < 206)
def xs_HW (Z : xs_Z) (G : xm_H) (H : Heap) : Prop := 7 ≤ G.1 ∧ H.size = xs_b Z + (G.1 - 7) ∧ ∀ (j : Nat) (o : xm_O), xm_hget G j = some o → j < G.1 ∧ xs_at Z j o H
def xs_KW (Z : xs_Z) (s : State) : Prop :=
  va_K Z.1 xm_cls (xs_tys Z) s ∧ (∀ w ∈ xm_nest, va_Nw w s) ∧ (∀ (i : Nat) (q : String × Nat × String), xm_str[i]? = some q → vk_R q.1 q.2.1 q.2.2 (Z.2.2.2.1 (i + 1)) s) ∧
  (s.isArrayOf Z.2.2.2.2.2 .int ∧ Z.2.2.2.2.2.vm ≠ .unknown ∧ Z.2.2.2.2.2.slots.size < 2 ^ 31 ∧ xs_n Z 6 = nI Z.2.2.2.2.2.slots.size ∧ ∀ j : Nat, j < Z.2.2.2.2.2.slots.size → Z.2.2.2.2.2.slots[j]? = some (.int (xs_n Z j))) ∧ (∀ j : Nat, j < 7 → Z.2.2.2.1 j < xs_b Z) ∧ ∀ C ∈ ["StairNews$Rule", "StairNews$Folk", "StairNews$Lore", "StairNews$Scene"], va_AO C s
theorem xs_nest {w : Jvm.Cond} (h : w ∈ xm_nest) : ∃ a i x h, w = .methodLinkNest a i x h := by
  simp only [xm_nest, List.mem_cons, List.not_mem_nil, or_false] at h
  rcases h with h | h | h | h | h | h | h | h | h | h | h | h <;> exact ⟨_, _, _, _, h⟩
theorem xs_KW.warm {Z : xs_Z} {s U : State} (hW : s.WarmedH U.vm) (h : xs_KW Z s) : xs_KW Z U := by
  obtain ⟨h1, h2, h3, h4, h5, h6⟩ := h
  refine ⟨va_K.moved hW.alike h1, fun w hw => ?_, fun i q hq => vk_R.warm hW (h3 i q hq), ⟨State.isArrayOf_alike hW.alike h4.1, h4.2⟩, h5, fun C hC => va_AO.moved hW.alike (h6 C hC)⟩
  obtain ⟨a, i, x, hh, rfl⟩ := xs_nest hw
  exact va_Nw.warmM hW (h2 _ hw)
theorem xs_KW.same {Z : xs_Z} {s U : State} (hv : U.vm = s.vm) (h : xs_KW Z s) : xs_KW Z U := by
  obtain ⟨h1, h2, h3, h4, h5, h6⟩ := h
  have ha : s.vm.Alike U.vm := by rw [hv]; exact Vm.Alike.refl _
  refine ⟨va_K.moved ha h1, fun w hw => ?_, fun i q hq => vk_R.same hv (h3 i q hq), ⟨State.isArrayOf_alike ha h4.1, h4.2⟩, h5, fun C hC => va_AO.moved ha (h6 C hC)⟩
  obtain ⟨a, i, x, hh, rfl⟩ := xs_nest hw
  exact va_Nw.same rfl hv.symm (h2 _ hw)
def xs_Cx (p : Program) (s : State) (m : MethodId) (args : Array Value) (c : Code) (cc : ByteArray) (nL o : Nat) (Z : xs_Z) : Prop :=
  p.tables.exec = Jvm.exec ∧ c.code = cc ∧ c.maxLocals = nL ∧ s.vm.findClass (xm_own o) = some m.cls ∧ (∀ w ∈ xm_tb, w.before args s = true) ∧ xs_KW Z s ∧ o < 17
def xs_St (Z : xs_Z) (nL : Nat) (lv : xm_L) (G : xm_H) (E : xm_R) (H : Heap) (locs : List Loc) (ls : Array Slot) : Prop :=
  xs_sat Z E ∧ xs_HW Z G H ∧ lv_has ls nL (lv.map (xs_cvp Z)) ∧ ∀ q ∈ locs, xs_b Z ≤ q.base
def xs_good (p : Program) (l : Launch) (e : Env) (R : Room) (s : State) (m : MethodId) (args : Array Value) (below : List Frame) (meth : Method) (c : Code) (Qf : State → Prop) (nL : Nat) (Z : xs_Z) (k : xm_K) (pc : Nat) : Prop :=
  ∀ (lv : xm_L) (st : List Value) (G : xm_H) (E : xm_R) (kc ks : Nat), k lv st G E kc ks = true → ∀ (H : Heap) (locs : List Loc) (ls : Array Slot), xs_St Z nL lv G E H locs ls → W p l e R s m args below meth c H locs kc ks Qf (F0 m pc ls (st.map (xs_cv Z)))
section REL
variable {Z : xs_Z} {G : xm_H} {H : Heap}
theorem xs_inj (hK : ∀ j : Nat, j < 7 → Z.2.2.2.1 j < xs_b Z) {i j : Nat} (hj : 7 ≤ j) (hij : i ≠ j) : xs_rho Z i ≠ xs_rho Z j := by
  unfold xs_rho
  rw [if_neg (show ¬ j < 7 by omega)]
  by_cases h : i < 7
  · rw [if_pos h]
    have := hK i h
    omega
  · rw [if_neg h]
    omega
theorem xs_lo {j : Nat} (hj : 7 ≤ j) : xs_b Z ≤ xs_rho Z j := by
  unfold xs_rho
  rw [if_neg (show ¬ j < 7 by omega)]
  omega
theorem xs_rho_new (h : xs_HW Z G H) : xs_rho Z G.1 = H.size := by
  unfold xs_rho
  rw [if_neg (show ¬ G.1 < 7 by have := h.1; omega), h.2.1]
theorem xs_at.kept {j : Nat} {o : xm_O} {H1 : Heap} (h : xs_at Z j o H) (hq : H1[xs_rho Z j]? = H[xs_rho Z j]?) : xs_at Z j o H1 := by
  rcases h with ⟨r, h1, h2, h3⟩ | ⟨h1, h2, h3⟩ | ⟨h1, h2, h3⟩ | h
  · exact Or.inl ⟨r, h1, h2, h3.kept hq⟩
  · exact Or.inr (Or.inl ⟨h1, h2, hq.trans h3⟩)
  · exact Or.inr (Or.inr (Or.inl ⟨h1, h2, hq.trans h3⟩))
  · exact Or.inr (Or.inr (Or.inr h))
/-- a cell of the picture is written -/
theorem xs_HW.put {j : Nat} {o : xm_O} {H1 : Heap} (hK : ∀ j : Nat, j < 7 → Z.2.2.2.1 j < xs_b Z) (h : xs_HW Z G H) (hj : 7 ≤ j) (hlt : j < G.1) (hz : H1.size = H.size) (oq : ∀ q : Nat, q ≠ xs_rho Z j → H1[q]? = H[q]?) (ho : xs_at Z j o H1) : xs_HW Z (xm_hput G j o) H1 := by
  refine ⟨h.1, by rw [hz]; exact h.2.1, fun i oi hi => ?_⟩
  rw [xl_hput] at hi
  by_cases e : i = j
  · subst e
    rw [if_pos rfl] at hi
    cases hi
    exact ⟨hlt, ho⟩
  · rw [if_neg e] at hi
    obtain ⟨h1, h2⟩ := h.2.2 i oi hi
    exact ⟨h1, h2.kept (oq _ (xs_inj hK hj e))⟩
theorem xs_rho_lt (hK : ∀ j : Nat, j < 7 → Z.2.2.2.1 j < xs_b Z) (h : xs_HW Z G H) {j : Nat} (hj : j < G.1) : xs_rho Z j < H.size := by
  rw [h.2.1]
  have := h.1
  unfold xs_rho
  by_cases e : j < 7
  · rw [if_pos e]
    have := hK j e
    omega
  · rw [if_neg e]
    omega
/-- a cell comes -/
theorem xs_HW.push {o : xm_O} {H1 : Heap} (hK : ∀ j : Nat, j < 7 → Z.2.2.2.1 j < xs_b Z) (h : xs_HW Z G H) (hz : H1.size = H.size + 1) (oq : ∀ q : Nat, q < H.size → H1[q]? = H[q]?) (ho : xs_at Z G.1 o H1) : xs_HW Z (xm_push G o) H1 := by
  refine ⟨Nat.le_succ_of_le h.1, ?_, fun i oi hi => ?_⟩
  · show H1.size = xs_b Z + (G.1 + 1 - 7)
    have := h.1
    rw [hz, h.2.1]
    omega
  · rw [xl_push] at hi
    by_cases e : i = G.1
    · subst e
      rw [if_pos rfl] at hi
      cases hi
      exact ⟨Nat.lt_succ_self _, ho⟩
    · rw [if_neg e] at hi
      obtain ⟨h1, h2⟩ := h.2.2 i oi hi
      exact ⟨Nat.lt_succ_of_lt h1, h2.kept (oq _ (xs_rho_lt hK h h1))⟩
end REL
end
section
/-! one row an instruction: what the machine does, the JVM does (no heap) -/
section XB
variable {p : Program} {l : Launch} {e : Env} {R : Room} {s : State} {m : MethodId} {args : Array Value} {below : List Frame} {meth : Method} {c : Code} {Qf : State → Prop} {cc : ByteArray} {nL o : Nat} {Z : xs_Z}
variable {lv : xm_L} {st : List Value} {G : xm_H} {E : xm_R} {kc ks pc : Nat} {k : xm_K} {H : Heap} {locs : List Loc} {ls : Array Slot}
theorem xs_holds (x y : Int32) : (xm_holds .eq (xm_sgn x.toInt y.toInt) = true ↔ x = y) ∧ (xm_holds .ne (xm_sgn x.toInt y.toInt) = true ↔ ¬ x = y) ∧ (xm_holds .lt (xm_sgn x.toInt y.toInt) = true ↔ x < y) ∧ (xm_holds .ge (xm_sgn x.toInt y.toInt) = true ↔ y ≤ x) ∧ (xm_holds .gt (xm_sgn x.toInt y.toInt) = true ↔ y < x) ∧ (xm_holds .le (xm_sgn x.toInt y.toInt) = true ↔ x ≤ y) := by
  have e1 : x = y ↔ x.toInt = y.toInt := Int32.toInt_inj.symm
  have e2 : x < y ↔ x.toInt < y.toInt := Int32.lt_iff_toInt_lt
  have e3 : y ≤ x ↔ y.toInt ≤ x.toInt := Int32.le_iff_toInt_le
  have e4 : y < x ↔ y.toInt < x.toInt := Int32.lt_iff_toInt_lt
  have e5 : x ≤ y ↔ x.toInt ≤ y.toInt := Int32.le_iff_toInt_le
  rw [e1, e2, e3, e4, e5]
  unfold xm_sgn
  by_cases h1 : x.toInt < y.toInt
  · rw [decide_eq_true h1]
    simp [xm_holds]
    omega
  · rw [decide_eq_false h1]
    by_cases h2 : x.toInt = y.toInt
    · rw [decide_eq_true h2]
      simp [xm_holds]
      omega
    · rw [decide_eq_false h2]
      simp [xm_holds]
      omega
theorem xs_int2 {i : Instr} {kk : List Value → xm_R → Bool} (h : xm_int2 i st E kk = true) (hs : xs_sat Z E) : ∃ w u st' E' x y z, st = w :: u :: st' ∧ xs_cv Z w = .int y ∧ xs_cv Z u = .int x ∧ xm_iop i x y = some z ∧ xs_sat Z E' ∧ kk (.int z :: st') E' = true := by
  match st, h with
  | w :: u :: st', h =>
    have h : xm_conc E w (fun E y => xm_conc E u (fun E x => match xm_iop i x y with
      | some z => xm_frc z (fun z => kk (.int z :: st') E)
      | none => false)) = true := h
    obtain ⟨E1, y, h1, s1, hy⟩ := xs_conc h hs
    obtain ⟨E2, x, h2, s2, hx⟩ := xs_conc h1 s1
    cases hz : xm_iop i x y with
    | none => rw [hz] at h2; cases h2
    | some z =>
      rw [hz] at h2
      have h3 : xm_frc z (fun z => kk (.int z :: st') E2) = true := h2
      rw [xl_frc] at h3
      exact ⟨w, u, st', E2, x, y, z, rfl, hy, hx, hz, s2, h3⟩
  | [], h => cases h
  | [_], h => cases h
theorem xs_long2 {i : Instr} {kk : List Value → Bool} (h : xm_long2 i st kk = true) : ∃ st' x y z, st = .long y :: .long x :: st' ∧ xm_lop i x y = some z ∧ kk (.long z :: st') = true := by
  unfold xm_long2 at h
  split at h
  · rename_i y x st'
    cases hz : xm_lop i x y with
    | none => rw [hz] at h; cases h
    | some z =>
      rw [hz] at h
      exact ⟨st', x, y, z, rfl, hz, h⟩
  · cases h

theorem xb_iconst (X : xs_Cx p s m args c cc nL o Z) {n : Int} {v : Value} (hd : decode cc pc = .ok (.iconst n, 1)) (hv : v = .int (Int32.ofInt n)) (hk : k lv (v :: st) G E kc ks = true) (g : xs_good p l e R s m args below meth c Qf nL Z k (pc + 1)) (S : xs_St Z nL lv G E H locs ls) : W p l e R s m args below meth c H locs kc ks Qf (F0 m pc ls (st.map (xs_cv Z))) := by
  subst hv
  exact lv_iconst X.1 X.2.1 hd rfl (g lv _ G E kc ks hk H locs ls S)
theorem xb_bipush (X : xs_Cx p s m args c cc nL o Z) {n : Int} {v : Value} (hd : decode cc pc = .ok (.bipush n, 2)) (hv : v = .int (Int8.ofInt n).toInt32) (hk : k lv (v :: st) G E kc ks = true) (g : xs_good p l e R s m args below meth c Qf nL Z k (pc + 2)) (S : xs_St Z nL lv G E H locs ls) : W p l e R s m args below meth c H locs kc ks Qf (F0 m pc ls (st.map (xs_cv Z))) := by
  subst hv
  exact lv_bipush X.1 X.2.1 hd rfl (g lv _ G E kc ks hk H locs ls S)
theorem xb_sipush (X : xs_Cx p s m args c cc nL o Z) {n : Int} {v : Value} (hd : decode cc pc = .ok (.sipush n, 3)) (hv : v = .int (Int16.ofInt n).toInt32) (hk : k lv (v :: st) G E kc ks = true) (g : xs_good p l e R s m args below meth c Qf nL Z k (pc + 3)) (S : xs_St Z nL lv G E H locs ls) : W p l e R s m args below meth c H locs kc ks Qf (F0 m pc ls (st.map (xs_cv Z))) := by
  subst hv
  exact lv_sipush X.1 X.2.1 hd rfl (g lv _ G E kc ks hk H locs ls S)
theorem xb_lconst (X : xs_Cx p s m args c cc nL o Z) {n : Fin 2} {v : Value} (hd : decode cc pc = .ok (.lconst n, 1)) (hv : v = .long (Int64.ofNat (n : Nat))) (hk : k lv (v :: st) G E kc ks = true) (g : xs_good p l e R s m args below meth c Qf nL Z k (pc + 1)) (S : xs_St Z nL lv G E H locs ls) : W p l e R s m args below meth c H locs kc ks Qf (F0 m pc ls (st.map (xs_cv Z))) := by
  subst hv
  exact lv_lconst X.1 X.2.1 hd rfl (g lv _ G E kc ks hk H locs ls S)
theorem xb_aconst_null (X : xs_Cx p s m args c cc nL o Z) {v : Value} (hd : decode cc pc = .ok (.aconst_null, 1)) (hv : v = .null) (hk : k lv (v :: st) G E kc ks = true) (g : xs_good p l e R s m args below meth c Qf nL Z k (pc + 1)) (S : xs_St Z nL lv G E H locs ls) : W p l e R s m args below meth c H locs kc ks Qf (F0 m pc ls (st.map (xs_cv Z))) := by
  subst hv
  exact lv_null X.1 X.2.1 hd (g lv _ G E kc ks hk H locs ls S)
theorem xb_iload (X : xs_Cx p s m args c cc nL o Z) {i : Nat} {w : Value} (hd : decode cc pc = .ok (.iload i, 2)) (hw : xm_get lv i = some w) (hI : xm_isI w = true) (hk : k lv (w :: st) G E kc ks = true) (g : xs_good p l e R s m args below meth c Qf nL Z k (pc + 2)) (S : xs_St Z nL lv G E H locs ls) : W p l e R s m args below meth c H locs kc ks Qf (F0 m pc ls (st.map (xs_cv Z))) := by
  obtain ⟨x, hx⟩ := xs_I (Z := Z) hI
  have h1 := xs_get S.2.2.1 hw
  rw [hx] at h1
  refine lv_iload X.1 X.2.1 hd h1 ?_
  have h2 := g lv _ G E kc ks hk H locs ls S
  rw [List.map_cons, hx] at h2
  exact h2
theorem xb_iload_n (X : xs_Cx p s m args c cc nL o Z) {i : Nat} {f : Fin 4} {w : Value} (hd : decode cc pc = .ok (.iload_n f, 1)) (hi : (f : Nat) = i) (hw : xm_get lv i = some w) (hI : xm_isI w = true) (hk : k lv (w :: st) G E kc ks = true) (g : xs_good p l e R s m args below meth c Qf nL Z k (pc + 1)) (S : xs_St Z nL lv G E H locs ls) : W p l e R s m args below meth c H locs kc ks Qf (F0 m pc ls (st.map (xs_cv Z))) := by
  obtain ⟨x, hx⟩ := xs_I (Z := Z) hI
  have h1 := xs_get S.2.2.1 hw
  rw [hx] at h1
  refine lv_iload_n X.1 X.2.1 hd hi h1 ?_
  have h2 := g lv _ G E kc ks hk H locs ls S
  rw [List.map_cons, hx] at h2
  exact h2
theorem xb_lload (X : xs_Cx p s m args c cc nL o Z) {i : Nat} {w : Value} (hd : decode cc pc = .ok (.lload i, 2)) (hw : xm_get lv i = some w) (hI : xm_isL w = true) (hk : k lv (w :: st) G E kc ks = true) (g : xs_good p l e R s m args below meth c Qf nL Z k (pc + 2)) (S : xs_St Z nL lv G E H locs ls) : W p l e R s m args below meth c H locs kc ks Qf (F0 m pc ls (st.map (xs_cv Z))) := by
  obtain ⟨x, hx⟩ := xs_L (Z := Z) hI
  have h1 := xs_get S.2.2.1 hw
  rw [hx] at h1
  refine lv_lload X.1 X.2.1 hd h1 ?_
  have h2 := g lv _ G E kc ks hk H locs ls S
  rw [List.map_cons, hx] at h2
  exact h2
theorem xb_lload_n (X : xs_Cx p s m args c cc nL o Z) {i : Nat} {f : Fin 4} {w : Value} (hd : decode cc pc = .ok (.lload_n f, 1)) (hi : (f : Nat) = i) (hw : xm_get lv i = some w) (hI : xm_isL w = true) (hk : k lv (w :: st) G E kc ks = true) (g : xs_good p l e R s m args below meth c Qf nL Z k (pc + 1)) (S : xs_St Z nL lv G E H locs ls) : W p l e R s m args below meth c H locs kc ks Qf (F0 m pc ls (st.map (xs_cv Z))) := by
  obtain ⟨x, hx⟩ := xs_L (Z := Z) hI
  have h1 := xs_get S.2.2.1 hw
  rw [hx] at h1
  refine lv_lload_n X.1 X.2.1 hd hi h1 ?_
  have h2 := g lv _ G E kc ks hk H locs ls S
  rw [List.map_cons, hx] at h2
  exact h2
theorem xb_aload (X : xs_Cx p s m args c cc nL o Z) {i : Nat} {w : Value} (hd : decode cc pc = .ok (.aload i, 2)) (hw : xm_get lv i = some w) (hI : xm_isA w = true) (hk : k lv (w :: st) G E kc ks = true) (g : xs_good p l e R s m args below meth c Qf nL Z k (pc + 2)) (S : xs_St Z nL lv G E H locs ls) : W p l e R s m args below meth c H locs kc ks Qf (F0 m pc ls (st.map (xs_cv Z))) := by
  have h1 := xs_get S.2.2.1 hw
  have h2 := g lv _ G E kc ks hk H locs ls S
  rw [List.map_cons] at h2
  rcases xs_A (Z := Z) hI with ⟨-, hx⟩ | ⟨j, -, hx⟩
  · rw [hx] at h1 h2
    exact lv_aloadN X.1 X.2.1 hd h1 h2
  · rw [hx] at h1 h2
    exact lv_aload X.1 X.2.1 hd h1 h2
theorem xb_aload_n (X : xs_Cx p s m args c cc nL o Z) {i : Nat} {f : Fin 4} {w : Value} (hd : decode cc pc = .ok (.aload_n f, 1)) (hi : (f : Nat) = i) (hw : xm_get lv i = some w) (hI : xm_isA w = true) (hk : k lv (w :: st) G E kc ks = true) (g : xs_good p l e R s m args below meth c Qf nL Z k (pc + 1)) (S : xs_St Z nL lv G E H locs ls) : W p l e R s m args below meth c H locs kc ks Qf (F0 m pc ls (st.map (xs_cv Z))) := by
  have h1 := xs_get S.2.2.1 hw
  have h2 := g lv _ G E kc ks hk H locs ls S
  rw [List.map_cons] at h2
  rcases xs_A (Z := Z) hI with ⟨-, hx⟩ | ⟨j, -, hx⟩
  · rw [hx] at h1 h2
    exact lv_aload_nN X.1 X.2.1 hd hi h1 h2
  · rw [hx] at h1 h2
    exact lv_aload_n X.1 X.2.1 hd hi h1 h2
theorem xb_istore (X : xs_Cx p s m args c cc nL o Z) {i : Nat} {w : Value} (hd : decode cc pc = .ok (.istore i, 2)) (hI : xm_isI w = true) (hn : i < nL) (hk : k (xm_set1 lv i w) st G E kc ks = true) (g : xs_good p l e R s m args below meth c Qf nL Z k (pc + 2)) (S : xs_St Z nL lv G E H locs ls) : W p l e R s m args below meth c H locs kc ks Qf (F0 m pc ls ((w :: st).map (xs_cv Z))) := by
  obtain ⟨x, hx⟩ := xs_I (Z := Z) hI
  rw [List.map_cons, hx]
  refine lv_istore X.1 X.2.1 hd S.2.2.1 hn rfl (fun ls' h' => g _ _ G E kc ks hk H locs ls' ⟨S.1, S.2.1, ?_, S.2.2.2⟩)
  rw [xs_set1, hx]
  exact h'
theorem xb_istore_n (X : xs_Cx p s m args c cc nL o Z) {i : Nat} {f : Fin 4} {w : Value} (hd : decode cc pc = .ok (.istore_n f, 1)) (hi : (f : Nat) = i) (hI : xm_isI w = true) (hn : i < nL) (hk : k (xm_set1 lv i w) st G E kc ks = true) (g : xs_good p l e R s m args below meth c Qf nL Z k (pc + 1)) (S : xs_St Z nL lv G E H locs ls) : W p l e R s m args below meth c H locs kc ks Qf (F0 m pc ls ((w :: st).map (xs_cv Z))) := by
  obtain ⟨x, hx⟩ := xs_I (Z := Z) hI
  rw [List.map_cons, hx]
  refine lv_istore_n X.1 X.2.1 hd hi S.2.2.1 hn rfl (fun ls' h' => g _ _ G E kc ks hk H locs ls' ⟨S.1, S.2.1, ?_, S.2.2.2⟩)
  rw [xs_set1, hx]
  exact h'
theorem xb_lstore (X : xs_Cx p s m args c cc nL o Z) {i : Nat} {w : Value} (hd : decode cc pc = .ok (.lstore i, 2)) (hI : xm_isL w = true) (hn : i + 1 < nL) (hk : k (xm_set2 lv i w) st G E kc ks = true) (g : xs_good p l e R s m args below meth c Qf nL Z k (pc + 2)) (S : xs_St Z nL lv G E H locs ls) : W p l e R s m args below meth c H locs kc ks Qf (F0 m pc ls ((w :: st).map (xs_cv Z))) := by
  obtain ⟨x, hx⟩ := xs_L (Z := Z) hI
  rw [List.map_cons, hx]
  refine lv_lstore X.1 X.2.1 hd S.2.2.1 hn rfl (fun ls' h' => g _ _ G E kc ks hk H locs ls' ⟨S.1, S.2.1, ?_, S.2.2.2⟩)
  rw [xs_set2, hx]
  exact h'
theorem xb_lstore_n (X : xs_Cx p s m args c cc nL o Z) {i : Nat} {f : Fin 4} {w : Value} (hd : decode cc pc = .ok (.lstore_n f, 1)) (hi : (f : Nat) = i) (hI : xm_isL w = true) (hn : i + 1 < nL) (hk : k (xm_set2 lv i w) st G E kc ks = true) (g : xs_good p l e R s m args below meth c Qf nL Z k (pc + 1)) (S : xs_St Z nL lv G E H locs ls) : W p l e R s m args below meth c H locs kc ks Qf (F0 m pc ls ((w :: st).map (xs_cv Z))) := by
  obtain ⟨x, hx⟩ := xs_L (Z := Z) hI
  rw [List.map_cons, hx]
  refine lv_lstore_n X.1 X.2.1 hd hi S.2.2.1 hn rfl (fun ls' h' => g _ _ G E kc ks hk H locs ls' ⟨S.1, S.2.1, ?_, S.2.2.2⟩)
  rw [xs_set2, hx]
  exact h'
theorem xb_astore (X : xs_Cx p s m args c cc nL o Z) {i : Nat} {w : Value} (hd : decode cc pc = .ok (.astore i, 2)) (hI : xm_isA w = true) (hn : i < nL) (hk : k (xm_set1 lv i w) st G E kc ks = true) (g : xs_good p l e R s m args below meth c Qf nL Z k (pc + 2)) (S : xs_St Z nL lv G E H locs ls) : W p l e R s m args below meth c H locs kc ks Qf (F0 m pc ls ((w :: st).map (xs_cv Z))) := by
  rw [List.map_cons]
  rcases xs_A (Z := Z) hI with ⟨-, hx⟩ | ⟨j, -, hx⟩
  · rw [hx]
    refine lv_astoreN X.1 X.2.1 hd S.2.2.1 hn rfl (fun ls' h' => g _ _ G E kc ks hk H locs ls' ⟨S.1, S.2.1, ?_, S.2.2.2⟩)
    rw [xs_set1, hx]
    exact h'
  · rw [hx]
    refine lv_astore X.1 X.2.1 hd S.2.2.1 hn rfl (fun ls' h' => g _ _ G E kc ks hk H locs ls' ⟨S.1, S.2.1, ?_, S.2.2.2⟩)
    rw [xs_set1, hx]
    exact h'
theorem xb_astore_n (X : xs_Cx p s m args c cc nL o Z) {i : Nat} {f : Fin 4} {w : Value} (hd : decode cc pc = .ok (.astore_n f, 1)) (hi : (f : Nat) = i) (hI : xm_isA w = true) (hn : i < nL) (hk : k (xm_set1 lv i w) st G E kc ks = true) (g : xs_good p l e R s m args below meth c Qf nL Z k (pc + 1)) (S : xs_St Z nL lv G E H locs ls) : W p l e R s m args below meth c H locs kc ks Qf (F0 m pc ls ((w :: st).map (xs_cv Z))) := by
  rw [List.map_cons]
  rcases xs_A (Z := Z) hI with ⟨-, hx⟩ | ⟨j, -, hx⟩
  · rw [hx]
    refine lv_astore_nN X.1 X.2.1 hd hi S.2.2.1 hn rfl (fun ls' h' => g _ _ G E kc ks hk H locs ls' ⟨S.1, S.2.1, ?_, S.2.2.2⟩)
    rw [xs_set1, hx]
    exact h'
  · rw [hx]
    refine lv_astore_n X.1 X.2.1 hd hi S.2.2.1 hn rfl (fun ls' h' => g _ _ G E kc ks hk H locs ls' ⟨S.1, S.2.1, ?_, S.2.2.2⟩)
    rw [xs_set1, hx]
    exact h'
theorem xb_iinc (X : xs_Cx p s m args c cc nL o Z) {i : Nat} {n : Int} {w : Value} (hd : decode cc pc = .ok (.iinc i n, 3)) (hw : xm_get lv i = some w) (hn : i < nL) (hk : xm_conc E w (fun E x => xm_frc (x + Int32.ofInt n) (fun z => k (xm_set1 lv i (.int z)) st G E kc ks)) = true) (g : xs_good p l e R s m args below meth c Qf nL Z k (pc + 3)) (S : xs_St Z nL lv G E H locs ls) : W p l e R s m args below meth c H locs kc ks Qf (F0 m pc ls (st.map (xs_cv Z))) := by
  obtain ⟨E1, x, h1, s1, hx⟩ := xs_conc hk S.1
  rw [xl_frc] at h1
  obtain ⟨q, hq⟩ := xs_getk (Z := Z) hw
  rw [hx] at hq
  refine lv_iinc X.1 X.2.1 hd S.2.2.1 hq rfl hn rfl (fun ls' h' => g _ _ G E1 kc ks h1 H locs ls' ⟨s1, S.2.1, ?_, S.2.2.2⟩)
  rw [xs_set1]
  exact h'
theorem xb_iadd (X : xs_Cx p s m args c cc nL o Z) (hd : decode cc pc = .ok (.iadd, 1)) (hk : xm_int2 .iadd st E (fun st E => k lv st G E kc ks) = true) (g : xs_good p l e R s m args below meth c Qf nL Z k (pc + 1)) (S : xs_St Z nL lv G E H locs ls) : W p l e R s m args below meth c H locs kc ks Qf (F0 m pc ls (st.map (xs_cv Z))) := by
  obtain ⟨w, u, st', E', x, y, z, rfl, hy, hx, hz, s1, h1⟩ := xs_int2 hk S.1
  rw [List.map_cons, List.map_cons, hy, hx]
  cases hz
  exact lv_iadd X.1 X.2.1 hd (g lv _ G E' kc ks h1 H locs ls ⟨s1, S.2⟩)
theorem xb_isub (X : xs_Cx p s m args c cc nL o Z) (hd : decode cc pc = .ok (.isub, 1)) (hk : xm_int2 .isub st E (fun st E => k lv st G E kc ks) = true) (g : xs_good p l e R s m args below meth c Qf nL Z k (pc + 1)) (S : xs_St Z nL lv G E H locs ls) : W p l e R s m args below meth c H locs kc ks Qf (F0 m pc ls (st.map (xs_cv Z))) := by
  obtain ⟨w, u, st', E', x, y, z, rfl, hy, hx, hz, s1, h1⟩ := xs_int2 hk S.1
  rw [List.map_cons, List.map_cons, hy, hx]
  cases hz
  exact lv_isub X.1 X.2.1 hd (g lv _ G E' kc ks h1 H locs ls ⟨s1, S.2⟩)
theorem xb_imul (X : xs_Cx p s m args c cc nL o Z) (hd : decode cc pc = .ok (.imul, 1)) (hk : xm_int2 .imul st E (fun st E => k lv st G E kc ks) = true) (g : xs_good p l e R s m args below meth c Qf nL Z k (pc + 1)) (S : xs_St Z nL lv G E H locs ls) : W p l e R s m args below meth c H locs kc ks Qf (F0 m pc ls (st.map (xs_cv Z))) := by
  obtain ⟨w, u, st', E', x, y, z, rfl, hy, hx, hz, s1, h1⟩ := xs_int2 hk S.1
  rw [List.map_cons, List.map_cons, hy, hx]
  cases hz
  exact lv_imul X.1 X.2.1 hd (g lv _ G E' kc ks h1 H locs ls ⟨s1, S.2⟩)
theorem xb_ior (X : xs_Cx p s m args c cc nL o Z) (hd : decode cc pc = .ok (.ior, 1)) (hk : xm_int2 .ior st E (fun st E => k lv st G E kc ks) = true) (g : xs_good p l e R s m args below meth c Qf nL Z k (pc + 1)) (S : xs_St Z nL lv G E H locs ls) : W p l e R s m args below meth c H locs kc ks Qf (F0 m pc ls (st.map (xs_cv Z))) := by
  obtain ⟨w, u, st', E', x, y, z, rfl, hy, hx, hz, s1, h1⟩ := xs_int2 hk S.1
  rw [List.map_cons, List.map_cons, hy, hx]
  cases hz
  exact lv_ior X.1 X.2.1 hd (g lv _ G E' kc ks h1 H locs ls ⟨s1, S.2⟩)
theorem xb_ixor (X : xs_Cx p s m args c cc nL o Z) (hd : decode cc pc = .ok (.ixor, 1)) (hk : xm_int2 .ixor st E (fun st E => k lv st G E kc ks) = true) (g : xs_good p l e R s m args below meth c Qf nL Z k (pc + 1)) (S : xs_St Z nL lv G E H locs ls) : W p l e R s m args below meth c H locs kc ks Qf (F0 m pc ls (st.map (xs_cv Z))) := by
  obtain ⟨w, u, st', E', x, y, z, rfl, hy, hx, hz, s1, h1⟩ := xs_int2 hk S.1
  rw [List.map_cons, List.map_cons, hy, hx]
  cases hz
  exact lv_ixor X.1 X.2.1 hd (g lv _ G E' kc ks h1 H locs ls ⟨s1, S.2⟩)
theorem xb_ishl (X : xs_Cx p s m args c cc nL o Z) (hd : decode cc pc = .ok (.ishl, 1)) (hk : xm_int2 .ishl st E (fun st E => k lv st G E kc ks) = true) (g : xs_good p l e R s m args below meth c Qf nL Z k (pc + 1)) (S : xs_St Z nL lv G E H locs ls) : W p l e R s m args below meth c H locs kc ks Qf (F0 m pc ls (st.map (xs_cv Z))) := by
  obtain ⟨w, u, st', E', x, y, z, rfl, hy, hx, hz, s1, h1⟩ := xs_int2 hk S.1
  rw [List.map_cons, List.map_cons, hy, hx]
  cases hz
  exact lv_ishl X.1 X.2.1 hd (g lv _ G E' kc ks h1 H locs ls ⟨s1, S.2⟩)
theorem xb_iushr (X : xs_Cx p s m args c cc nL o Z) (hd : decode cc pc = .ok (.iushr, 1)) (hk : xm_int2 .iushr st E (fun st E => k lv st G E kc ks) = true) (g : xs_good p l e R s m args below meth c Qf nL Z k (pc + 1)) (S : xs_St Z nL lv G E H locs ls) : W p l e R s m args below meth c H locs kc ks Qf (F0 m pc ls (st.map (xs_cv Z))) := by
  obtain ⟨w, u, st', E', x, y, z, rfl, hy, hx, hz, s1, h1⟩ := xs_int2 hk S.1
  rw [List.map_cons, List.map_cons, hy, hx]
  cases hz
  exact lv_iushr X.1 X.2.1 hd rfl (g lv _ G E' kc ks h1 H locs ls ⟨s1, S.2⟩)
theorem xb_idiv (X : xs_Cx p s m args c cc nL o Z) (hd : decode cc pc = .ok (.idiv, 1)) (hk : xm_int2 .idiv st E (fun st E => k lv st G E kc ks) = true) (g : xs_good p l e R s m args below meth c Qf nL Z k (pc + 1)) (S : xs_St Z nL lv G E H locs ls) : W p l e R s m args below meth c H locs kc ks Qf (F0 m pc ls (st.map (xs_cv Z))) := by
  obtain ⟨w, u, st', E', x, y, z, rfl, hy, hx, hz, s1, h1⟩ := xs_int2 hk S.1
  rw [List.map_cons, List.map_cons, hy, hx]
  simp only [xm_iop] at hz
  by_cases h0 : y = 0
  · rw [decide_eq_true h0] at hz
    cases hz
  · rw [decide_eq_false h0] at hz
    cases hz
    exact lv_idiv X.1 X.2.1 hd h0 (g lv _ G E' kc ks h1 H locs ls ⟨s1, S.2⟩)
theorem xb_irem (X : xs_Cx p s m args c cc nL o Z) (hd : decode cc pc = .ok (.irem, 1)) (hk : xm_int2 .irem st E (fun st E => k lv st G E kc ks) = true) (g : xs_good p l e R s m args below meth c Qf nL Z k (pc + 1)) (S : xs_St Z nL lv G E H locs ls) : W p l e R s m args below meth c H locs kc ks Qf (F0 m pc ls (st.map (xs_cv Z))) := by
  obtain ⟨w, u, st', E', x, y, z, rfl, hy, hx, hz, s1, h1⟩ := xs_int2 hk S.1
  rw [List.map_cons, List.map_cons, hy, hx]
  simp only [xm_iop] at hz
  by_cases h0 : y = 0
  · rw [decide_eq_true h0] at hz
    cases hz
  · rw [decide_eq_false h0] at hz
    cases hz
    exact lv_irem X.1 X.2.1 hd h0 (g lv _ G E' kc ks h1 H locs ls ⟨s1, S.2⟩)
theorem xb_iand (X : xs_Cx p s m args c cc nL o Z) (hd : decode cc pc = .ok (.iand, 1)) (hk : xm_iand st E (fun st E => k lv st G E kc ks) = true) (g : xs_good p l e R s m args below meth c Qf nL Z k (pc + 1)) (S : xs_St Z nL lv G E H locs ls) : W p l e R s m args below meth c H locs kc ks Qf (F0 m pc ls (st.map (xs_cv Z))) := by
  unfold xm_iand at hk
  split at hk
  · rename_i mm j st'
    by_cases h31 : mm = 31
    · rw [decide_eq_true h31] at hk
      subst h31
      have hk : xm_all 0 32 (fun c => k lv (.int (Int32.ofInt c) :: st') G E kc ks) = true := hk
      show W p l e R s m args below meth c H locs kc ks Qf (F0 m pc ls (.int 31 :: .int (xs_n Z j) :: st'.map (xs_cv Z)))
      refine lv_iand X.1 X.2.1 hd ?_
      have hm := pk_and (xs_n Z j) (m := 31) 5 (by decide)
      have hlt : (xs_n Z j).toBitVec.toNat % 2 ^ 5 < 32 := Nat.mod_lt _ (by decide)
      have h1 := xl_all hk (((xs_n Z j).toBitVec.toNat % 2 ^ 5 : Nat) : Int) (by omega) (by omega)
      have h2 := g lv _ G E kc ks h1 H locs ls S
      rw [List.map_cons] at h2
      have h3 : Int32.ofInt (((xs_n Z j).toBitVec.toNat % 2 ^ 5 : Nat) : Int) = xs_n Z j &&& 31 := by
        rw [hm]
        rfl
      rw [h3] at h2
      exact h2
    · rw [decide_eq_false h31] at hk
      cases hk
  · obtain ⟨w, u, st', E', x, y, z, rfl, hy, hx, hz, s1, h1⟩ := xs_int2 hk S.1
    rw [List.map_cons, List.map_cons, hy, hx]
    cases hz
    exact lv_iand X.1 X.2.1 hd (g lv _ G E' kc ks h1 H locs ls ⟨s1, S.2⟩)
theorem xb_ishr (X : xs_Cx p s m args c cc nL o Z) (hd : decode cc pc = .ok (.ishr, 1)) (hk : xm_ishr st E (fun st E => k lv st G E kc ks) = true) (g : xs_good p l e R s m args below meth c Qf nL Z k (pc + 1)) (S : xs_St Z nL lv G E H locs ls) : W p l e R s m args below meth c H locs kc ks Qf (F0 m pc ls (st.map (xs_cv Z))) := by
  unfold xm_ishr at hk
  split at hk
  · rename_i mm j st'
    cases hc : (decide (0 ≤ mm.toInt) && (decide (mm.toInt < 32) && Nat.blt j 1000)) with
    | false => rw [hc] at hk; cases hk
    | true =>
      rw [hc] at hk
      simp only [Bool.and_eq_true, decide_eq_true_eq] at hc
      obtain ⟨c1, c2, c3⟩ := hc
      have c3 : j < 1000 := Nat.le_of_ble_eq_true c3
      have hk : k lv (.float (UInt32.ofNat (64 * j + mm.toInt.toNat)) :: st') G E kc ks = true := hk
      show W p l e R s m args below meth c H locs kc ks Qf (F0 m pc ls (.int mm :: .int (xs_n Z j) :: st'.map (xs_cv Z)))
      refine lv_ishr X.1 X.2.1 hd ?_
      have h2 := g lv _ G E kc ks hk H locs ls S
      rw [List.map_cons] at h2
      have hn : (UInt32.ofNat (64 * j + mm.toInt.toNat)).toNat = 64 * j + mm.toInt.toNat := by
        rw [UInt32.toNat_ofNat']
        omega
      have h3 : xs_cv Z (.float (UInt32.ofNat (64 * j + mm.toInt.toNat))) = .int (xs_n Z j >>> (mm &&& 31)) := by
        show Value.int (xs_sh (xs_n Z) (UInt32.ofNat (64 * j + mm.toInt.toNat)).toNat) = _
        rw [hn]
        unfold xs_sh
        rw [if_neg (by omega), show (64 * j + mm.toInt.toNat) / 64 = j by omega, show (64 * j + mm.toInt.toNat) % 32 = mm.toInt.toNat by omega]
        congr 3
        apply Int32.toInt_inj.mp
        have := nI_toInt (n := mm.toInt.toNat) (by omega)
        unfold nI at this
        rw [this]
        omega
      rw [h3] at h2
      exact h2
  · obtain ⟨w, u, st', E', x, y, z, rfl, hy, hx, hz, s1, h1⟩ := xs_int2 hk S.1
    rw [List.map_cons, List.map_cons, hy, hx]
    cases hz
    exact lv_ishr X.1 X.2.1 hd (g lv _ G E' kc ks h1 H locs ls ⟨s1, S.2⟩)
theorem xb_ineg (X : xs_Cx p s m args c cc nL o Z) {w : Value} (hd : decode cc pc = .ok (.ineg, 1)) (hk : xm_conc E w (fun E x => xm_frc (-x) (fun z => k lv (.int z :: st) G E kc ks)) = true) (g : xs_good p l e R s m args below meth c Qf nL Z k (pc + 1)) (S : xs_St Z nL lv G E H locs ls) : W p l e R s m args below meth c H locs kc ks Qf (F0 m pc ls ((w :: st).map (xs_cv Z))) := by
  obtain ⟨E1, x, h1, s1, hx⟩ := xs_conc hk S.1
  rw [xl_frc] at h1
  rw [List.map_cons, hx]
  exact lv_ineg X.1 X.2.1 hd (g lv _ G E1 kc ks h1 H locs ls ⟨s1, S.2⟩)
theorem xb_i2b (X : xs_Cx p s m args c cc nL o Z) (hd : decode cc pc = .ok (.i2b, 1)) (hk : xm_i2b st E (fun st E => k lv st G E kc ks) = true) (g : xs_good p l e R s m args below meth c Qf nL Z k (pc + 1)) (S : xs_St Z nL lv G E H locs ls) : W p l e R s m args below meth c H locs kc ks Qf (F0 m pc ls (st.map (xs_cv Z))) := by
  unfold xm_i2b at hk
  split at hk
  · rename_i u st'
    cases hc : (Nat.beq (u.toNat / 32 % 2) 0 && Nat.blt u.toNat 100000) with
    | false => rw [hc] at hk; cases hk
    | true =>
      rw [hc] at hk
      simp only [Bool.and_eq_true] at hc
      obtain ⟨c1, c2⟩ := hc
      have c1 := Nat.eq_of_beq_eq_true c1
      have c2 : u.toNat < 100000 := Nat.le_of_ble_eq_true c2
      have hk : k lv (.float (UInt32.ofNat (u.toNat + 32)) :: st') G E kc ks = true := hk
      show W p l e R s m args below meth c H locs kc ks Qf (F0 m pc ls (.int (xs_sh (xs_n Z) u.toNat) :: st'.map (xs_cv Z)))
      refine lv_i2b X.1 X.2.1 hd rfl ?_
      have h2 := g lv _ G E kc ks hk H locs ls S
      rw [List.map_cons] at h2
      have hn : (UInt32.ofNat (u.toNat + 32)).toNat = u.toNat + 32 := by
        rw [UInt32.toNat_ofNat']
        omega
      have h3 : xs_cv Z (.float (UInt32.ofNat (u.toNat + 32))) = .int (xs_sh (xs_n Z) u.toNat).toInt8.toInt32 := by
        show Value.int (xs_sh (xs_n Z) (UInt32.ofNat (u.toNat + 32)).toNat) = _
        rw [hn]
        unfold xs_sh
        rw [if_pos (by omega), if_neg (by omega), show (u.toNat + 32) / 64 = u.toNat / 64 by omega, show (u.toNat + 32) % 32 = u.toNat % 32 by omega]
      rw [h3] at h2
      exact h2
  · rename_i w st' _
    obtain ⟨E1, x, h1, s1, hx⟩ := xs_conc hk S.1
    rw [List.map_cons, hx]
    exact lv_i2b X.1 X.2.1 hd rfl (g lv _ G E1 kc ks h1 H locs ls ⟨s1, S.2⟩)
  · cases hk
theorem xb_i2l (X : xs_Cx p s m args c cc nL o Z) (hd : decode cc pc = .ok (.i2l, 1)) (hk : xm_i2l st (fun st => k lv st G E kc ks) = true) (g : xs_good p l e R s m args below meth c Qf nL Z k (pc + 1)) (S : xs_St Z nL lv G E H locs ls) : W p l e R s m args below meth c H locs kc ks Qf (F0 m pc ls (st.map (xs_cv Z))) := by
  unfold xm_i2l at hk
  split at hk
  · exact lv_i2l X.1 X.2.1 hd rfl (g lv _ G E kc ks hk H locs ls S)
  · rename_i j st'
    cases hc : Nat.blt j 1000 with
    | false => rw [hc] at hk; cases hk
    | true =>
      rw [hc] at hk
      have c2 : j < 1000 := Nat.le_of_ble_eq_true hc
      have hk : k lv (.double (UInt64.ofNat j) :: st') G E kc ks = true := hk
      have h2 := g lv _ G E kc ks hk H locs ls S
      rw [List.map_cons] at h2
      have hn : (UInt64.ofNat j).toNat = j := by
        rw [UInt64.toNat_ofNat']
        omega
      have h3 : xs_cv Z (.double (UInt64.ofNat j)) = .long (xs_n Z j).toInt64 := by
        show Value.long (xs_n Z (UInt64.ofNat j).toNat).toInt64 = _
        rw [hn]
      rw [h3] at h2
      exact lv_i2l X.1 X.2.1 hd rfl h2
  · cases hk
theorem xb_l2i (X : xs_Cx p s m args c cc nL o Z) {x : Int64} (hd : decode cc pc = .ok (.l2i, 1)) (hk : xm_frc x.toInt32 (fun z => k lv (.int z :: st) G E kc ks) = true) (g : xs_good p l e R s m args below meth c Qf nL Z k (pc + 1)) (S : xs_St Z nL lv G E H locs ls) : W p l e R s m args below meth c H locs kc ks Qf (F0 m pc ls ((.long x :: st).map (xs_cv Z))) := by
  rw [xl_frc] at hk
  exact lv_l2i X.1 X.2.1 hd rfl (g lv _ G E kc ks hk H locs ls S)
theorem xb_ladd (X : xs_Cx p s m args c cc nL o Z) (hd : decode cc pc = .ok (.ladd, 1)) (hk : xm_long2 .ladd st (fun st => k lv st G E kc ks) = true) (g : xs_good p l e R s m args below meth c Qf nL Z k (pc + 1)) (S : xs_St Z nL lv G E H locs ls) : W p l e R s m args below meth c H locs kc ks Qf (F0 m pc ls (st.map (xs_cv Z))) := by
  obtain ⟨st', x, y, z, rfl, hz, h1⟩ := xs_long2 hk
  cases hz
  exact lv_ladd X.1 X.2.1 hd (g lv _ G E kc ks h1 H locs ls S)
theorem xb_lsub (X : xs_Cx p s m args c cc nL o Z) (hd : decode cc pc = .ok (.lsub, 1)) (hk : xm_long2 .lsub st (fun st => k lv st G E kc ks) = true) (g : xs_good p l e R s m args below meth c Qf nL Z k (pc + 1)) (S : xs_St Z nL lv G E H locs ls) : W p l e R s m args below meth c H locs kc ks Qf (F0 m pc ls (st.map (xs_cv Z))) := by
  obtain ⟨st', x, y, z, rfl, hz, h1⟩ := xs_long2 hk
  cases hz
  exact lv_lsub X.1 X.2.1 hd (g lv _ G E kc ks h1 H locs ls S)
theorem xb_lmul (X : xs_Cx p s m args c cc nL o Z) (hd : decode cc pc = .ok (.lmul, 1)) (hk : xm_long2 .lmul st (fun st => k lv st G E kc ks) = true) (g : xs_good p l e R s m args below meth c Qf nL Z k (pc + 1)) (S : xs_St Z nL lv G E H locs ls) : W p l e R s m args below meth c H locs kc ks Qf (F0 m pc ls (st.map (xs_cv Z))) := by
  obtain ⟨st', x, y, z, rfl, hz, h1⟩ := xs_long2 hk
  cases hz
  exact lv_lmul X.1 X.2.1 hd (g lv _ G E kc ks h1 H locs ls S)
theorem xb_land (X : xs_Cx p s m args c cc nL o Z) (hd : decode cc pc = .ok (.land, 1)) (hk : xm_long2 .land st (fun st => k lv st G E kc ks) = true) (g : xs_good p l e R s m args below meth c Qf nL Z k (pc + 1)) (S : xs_St Z nL lv G E H locs ls) : W p l e R s m args below meth c H locs kc ks Qf (F0 m pc ls (st.map (xs_cv Z))) := by
  obtain ⟨st', x, y, z, rfl, hz, h1⟩ := xs_long2 hk
  cases hz
  exact lv_land X.1 X.2.1 hd (g lv _ G E kc ks h1 H locs ls S)
theorem xb_lor (X : xs_Cx p s m args c cc nL o Z) (hd : decode cc pc = .ok (.lor, 1)) (hk : xm_long2 .lor st (fun st => k lv st G E kc ks) = true) (g : xs_good p l e R s m args below meth c Qf nL Z k (pc + 1)) (S : xs_St Z nL lv G E H locs ls) : W p l e R s m args below meth c H locs kc ks Qf (F0 m pc ls (st.map (xs_cv Z))) := by
  obtain ⟨st', x, y, z, rfl, hz, h1⟩ := xs_long2 hk
  cases hz
  exact lv_lor X.1 X.2.1 hd (g lv _ G E kc ks h1 H locs ls S)
theorem xb_ldiv (X : xs_Cx p s m args c cc nL o Z) (hd : decode cc pc = .ok (.ldiv, 1)) (hk : xm_long2 .ldiv st (fun st => k lv st G E kc ks) = true) (g : xs_good p l e R s m args below meth c Qf nL Z k (pc + 1)) (S : xs_St Z nL lv G E H locs ls) : W p l e R s m args below meth c H locs kc ks Qf (F0 m pc ls (st.map (xs_cv Z))) := by
  obtain ⟨st', x, y, z, rfl, hz, h1⟩ := xs_long2 hk
  simp only [xm_lop] at hz
  by_cases h0 : y = 0
  · rw [decide_eq_true h0] at hz
    cases hz
  · rw [decide_eq_false h0] at hz
    cases hz
    exact lv_ldiv X.1 X.2.1 hd h0 (g lv _ G E kc ks h1 H locs ls S)
theorem xb_lrem (X : xs_Cx p s m args c cc nL o Z) (hd : decode cc pc = .ok (.lrem, 1)) (hk : xm_long2 .lrem st (fun st => k lv st G E kc ks) = true) (g : xs_good p l e R s m args below meth c Qf nL Z k (pc + 1)) (S : xs_St Z nL lv G E H locs ls) : W p l e R s m args below meth c H locs kc ks Qf (F0 m pc ls (st.map (xs_cv Z))) := by
  obtain ⟨st', x, y, z, rfl, hz, h1⟩ := xs_long2 hk
  simp only [xm_lop] at hz
  by_cases h0 : y = 0
  · rw [decide_eq_true h0] at hz
    cases hz
  · rw [decide_eq_false h0] at hz
    cases hz
    exact lv_lrem X.1 X.2.1 hd h0 (g lv _ G E kc ks h1 H locs ls S)
theorem xb_lshl (X : xs_Cx p s m args c cc nL o Z) {x : Int64} {y : Int32} (hd : decode cc pc = .ok (.lshl, 1)) (hk : k lv (.long (x <<< (y.toInt64 &&& 63)) :: st) G E kc ks = true) (g : xs_good p l e R s m args below meth c Qf nL Z k (pc + 1)) (S : xs_St Z nL lv G E H locs ls) : W p l e R s m args below meth c H locs kc ks Qf (F0 m pc ls ((.int y :: .long x :: st).map (xs_cv Z))) := by
  exact lv_lshl X.1 X.2.1 hd rfl (g lv _ G E kc ks hk H locs ls S)
theorem xb_lshr (X : xs_Cx p s m args c cc nL o Z) {x : Int64} {y : Int32} (hd : decode cc pc = .ok (.lshr, 1)) (hk : k lv (.long (x >>> (y.toInt64 &&& 63)) :: st) G E kc ks = true) (g : xs_good p l e R s m args below meth c Qf nL Z k (pc + 1)) (S : xs_St Z nL lv G E H locs ls) : W p l e R s m args below meth c H locs kc ks Qf (F0 m pc ls ((.int y :: .long x :: st).map (xs_cv Z))) := by
  exact lv_lshr X.1 X.2.1 hd rfl (g lv _ G E kc ks hk H locs ls S)
theorem xb_lcmp (X : xs_Cx p s m args c cc nL o Z) {w u : Value} (hd : decode cc pc = .ok (.lcmp, 1)) (hk : xm_cmpL E u w (fun E s => k lv (.int (Int32.ofInt s) :: st) G E kc ks) = true) (g : xs_good p l e R s m args below meth c Qf nL Z k (pc + 1)) (S : xs_St Z nL lv G E H locs ls) : W p l e R s m args below meth c H locs kc ks Qf (F0 m pc ls ((w :: u :: st).map (xs_cv Z))) := by
  obtain ⟨E1, x, y, h1, s1, hx, hy⟩ := xs_cmpL hk S.1
  rw [List.map_cons, List.map_cons, hx, hy]
  refine W.lcmp X.1 X.2.1 hd ?_
  have h2 := g lv _ G E1 kc ks h1 H locs ls ⟨s1, S.2⟩
  rw [List.map_cons] at h2
  have h3 : Int32.ofInt (xm_sgn x.toInt y.toInt) = lg_cmp x y := by
    unfold xm_sgn lg_cmp
    by_cases a : x.toInt < y.toInt
    · rw [decide_eq_true a, if_neg (fun q => by have := Int64.lt_iff_toInt_lt.mp q; omega), if_neg (fun q => by rw [q] at a; omega)]
      rfl
    · rw [decide_eq_false a]
      by_cases b : x.toInt = y.toInt
      · rw [decide_eq_true b, if_neg (fun q => by have := Int64.lt_iff_toInt_lt.mp q; omega), if_pos (Int64.toInt_inj.mp b)]
        rfl
      · rw [decide_eq_false b, if_pos (Int64.lt_iff_toInt_lt.mpr (by omega))]
        rfl
  have h4 : xs_cv Z (.int (Int32.ofInt (xm_sgn x.toInt y.toInt))) = .int (lg_cmp x y) := congrArg Value.int h3
  rw [h4] at h2
  exact h2
theorem xb_dup (X : xs_Cx p s m args c cc nL o Z) {w : Value} (hd : decode cc pc = .ok (.dup, 1)) (hc : xm_cat1 w = true) (hk : k lv (w :: w :: st) G E kc ks = true) (g : xs_good p l e R s m args below meth c Qf nL Z k (pc + 1)) (S : xs_St Z nL lv G E H locs ls) : W p l e R s m args below meth c H locs kc ks Qf (F0 m pc ls ((w :: st).map (xs_cv Z))) := by
  exact lv_dup X.1 X.2.1 hd (xs_cat1 hc) (g lv _ G E kc ks hk H locs ls S)
theorem xb_pop (X : xs_Cx p s m args c cc nL o Z) {w : Value} (hd : decode cc pc = .ok (.pop, 1)) (hc : xm_cat1 w = true) (hk : k lv st G E kc ks = true) (g : xs_good p l e R s m args below meth c Qf nL Z k (pc + 1)) (S : xs_St Z nL lv G E H locs ls) : W p l e R s m args below meth c H locs kc ks Qf (F0 m pc ls ((w :: st).map (xs_cv Z))) := by
  exact lv_pop X.1 X.2.1 hd (xs_cat1 hc) (g lv _ G E kc ks hk H locs ls S)
theorem xb_dup2 (X : xs_Cx p s m args c cc nL o Z) {w u : Value} (hd : decode cc pc = .ok (.dup2, 1)) (hc : xm_cat1 w = true) (hc2 : xm_cat1 u = true) (hk : k lv (w :: u :: w :: u :: st) G E kc ks = true) (g : xs_good p l e R s m args below meth c Qf nL Z k (pc + 1)) (S : xs_St Z nL lv G E H locs ls) : W p l e R s m args below meth c H locs kc ks Qf (F0 m pc ls ((w :: u :: st).map (xs_cv Z))) := by
  exact lv_dup2_11 X.1 X.2.1 hd (xs_cat1 hc) (xs_cat1 hc2) (g lv _ G E kc ks hk H locs ls S)
variable {kt kf : xm_K} {tgt : Nat}
theorem xb_ifCond_eq (X : xs_Cx p s m args c cc nL o Z) {w : Value} {off : Int} (hd : decode cc pc = .ok (.ifCond .eq off, 3)) (ht : (pc : Int) + off = (tgt : Int)) (hk : xm_cmpI E w (.int 0) (fun E s => bif xm_holds .eq s then kt lv st G E kc ks else kf lv st G E kc ks) = true) (gt : xs_good p l e R s m args below meth c Qf nL Z kt tgt) (gf : xs_good p l e R s m args below meth c Qf nL Z kf (pc + 3)) (S : xs_St Z nL lv G E H locs ls) : W p l e R s m args below meth c H locs kc ks Qf (F0 m pc ls ((w :: st).map (xs_cv Z))) := by
  obtain ⟨E1, x, y, h1, s1, hx, hy⟩ := xs_cmpI hk S.1
  rw [List.map_cons, hx]
  cases hy
  have hh := (xs_holds x 0).1
  refine lv_if_eq X.1 X.2.1 hd ht (fun h => ?_) (fun h => ?_)
  · rw [hh.mpr h] at h1
    exact gt lv st G E1 kc ks h1 H locs ls ⟨s1, S.2⟩
  · have hf : xm_holds .eq (xm_sgn x.toInt (0 : Int32).toInt) = false := Bool.eq_false_iff.mpr (fun q => h (hh.mp q))
    rw [hf] at h1
    exact gf lv st G E1 kc ks h1 H locs ls ⟨s1, S.2⟩
theorem xb_if_icmp_eq (X : xs_Cx p s m args c cc nL o Z) {w u : Value} {off : Int} (hd : decode cc pc = .ok (.if_icmp .eq off, 3)) (ht : (pc : Int) + off = (tgt : Int)) (hk : xm_cmpI E u w (fun E s => bif xm_holds .eq s then kt lv st G E kc ks else kf lv st G E kc ks) = true) (gt : xs_good p l e R s m args below meth c Qf nL Z kt tgt) (gf : xs_good p l e R s m args below meth c Qf nL Z kf (pc + 3)) (S : xs_St Z nL lv G E H locs ls) : W p l e R s m args below meth c H locs kc ks Qf (F0 m pc ls ((w :: u :: st).map (xs_cv Z))) := by
  obtain ⟨E1, x, y, h1, s1, hx, hy⟩ := xs_cmpI hk S.1
  rw [List.map_cons, List.map_cons, hx, hy]
  have hh := (xs_holds x y).1
  refine lv_icmp_eq X.1 X.2.1 hd ht (fun h => ?_) (fun h => ?_)
  · rw [hh.mpr h] at h1
    exact gt lv st G E1 kc ks h1 H locs ls ⟨s1, S.2⟩
  · have hf : xm_holds .eq (xm_sgn x.toInt (y : Int32).toInt) = false := Bool.eq_false_iff.mpr (fun q => h (hh.mp q))
    rw [hf] at h1
    exact gf lv st G E1 kc ks h1 H locs ls ⟨s1, S.2⟩
theorem xb_ifCond_ne (X : xs_Cx p s m args c cc nL o Z) {w : Value} {off : Int} (hd : decode cc pc = .ok (.ifCond .ne off, 3)) (ht : (pc : Int) + off = (tgt : Int)) (hk : xm_cmpI E w (.int 0) (fun E s => bif xm_holds .ne s then kt lv st G E kc ks else kf lv st G E kc ks) = true) (gt : xs_good p l e R s m args below meth c Qf nL Z kt tgt) (gf : xs_good p l e R s m args below meth c Qf nL Z kf (pc + 3)) (S : xs_St Z nL lv G E H locs ls) : W p l e R s m args below meth c H locs kc ks Qf (F0 m pc ls ((w :: st).map (xs_cv Z))) := by
  obtain ⟨E1, x, y, h1, s1, hx, hy⟩ := xs_cmpI hk S.1
  rw [List.map_cons, hx]
  cases hy
  have hh := (xs_holds x 0).2.1
  refine lv_if_ne X.1 X.2.1 hd ht (fun h => ?_) (fun h => ?_)
  · rw [hh.mpr h] at h1
    exact gt lv st G E1 kc ks h1 H locs ls ⟨s1, S.2⟩
  · have hf : xm_holds .ne (xm_sgn x.toInt (0 : Int32).toInt) = false := Bool.eq_false_iff.mpr (fun q => (hh.mp q) h)
    rw [hf] at h1
    exact gf lv st G E1 kc ks h1 H locs ls ⟨s1, S.2⟩
theorem xb_if_icmp_ne (X : xs_Cx p s m args c cc nL o Z) {w u : Value} {off : Int} (hd : decode cc pc = .ok (.if_icmp .ne off, 3)) (ht : (pc : Int) + off = (tgt : Int)) (hk : xm_cmpI E u w (fun E s => bif xm_holds .ne s then kt lv st G E kc ks else kf lv st G E kc ks) = true) (gt : xs_good p l e R s m args below meth c Qf nL Z kt tgt) (gf : xs_good p l e R s m args below meth c Qf nL Z kf (pc + 3)) (S : xs_St Z nL lv G E H locs ls) : W p l e R s m args below meth c H locs kc ks Qf (F0 m pc ls ((w :: u :: st).map (xs_cv Z))) := by
  obtain ⟨E1, x, y, h1, s1, hx, hy⟩ := xs_cmpI hk S.1
  rw [List.map_cons, List.map_cons, hx, hy]
  have hh := (xs_holds x y).2.1
  refine lv_icmp_ne X.1 X.2.1 hd ht (fun h => ?_) (fun h => ?_)
  · rw [hh.mpr h] at h1
    exact gt lv st G E1 kc ks h1 H locs ls ⟨s1, S.2⟩
  · have hf : xm_holds .ne (xm_sgn x.toInt (y : Int32).toInt) = false := Bool.eq_false_iff.mpr (fun q => (hh.mp q) h)
    rw [hf] at h1
    exact gf lv st G E1 kc ks h1 H locs ls ⟨s1, S.2⟩
theorem xb_ifCond_lt (X : xs_Cx p s m args c cc nL o Z) {w : Value} {off : Int} (hd : decode cc pc = .ok (.ifCond .lt off, 3)) (ht : (pc : Int) + off = (tgt : Int)) (hk : xm_cmpI E w (.int 0) (fun E s => bif xm_holds .lt s then kt lv st G E kc ks else kf lv st G E kc ks) = true) (gt : xs_good p l e R s m args below meth c Qf nL Z kt tgt) (gf : xs_good p l e R s m args below meth c Qf nL Z kf (pc + 3)) (S : xs_St Z nL lv G E H locs ls) : W p l e R s m args below meth c H locs kc ks Qf (F0 m pc ls ((w :: st).map (xs_cv Z))) := by
  obtain ⟨E1, x, y, h1, s1, hx, hy⟩ := xs_cmpI hk S.1
  rw [List.map_cons, hx]
  cases hy
  have hh := (xs_holds x 0).2.2.1
  refine lv_if_lt X.1 X.2.1 hd ht (fun h => ?_) (fun h => ?_)
  · rw [hh.mpr h] at h1
    exact gt lv st G E1 kc ks h1 H locs ls ⟨s1, S.2⟩
  · have hf : xm_holds .lt (xm_sgn x.toInt (0 : Int32).toInt) = false := Bool.eq_false_iff.mpr (fun q => h (hh.mp q))
    rw [hf] at h1
    exact gf lv st G E1 kc ks h1 H locs ls ⟨s1, S.2⟩
theorem xb_if_icmp_lt (X : xs_Cx p s m args c cc nL o Z) {w u : Value} {off : Int} (hd : decode cc pc = .ok (.if_icmp .lt off, 3)) (ht : (pc : Int) + off = (tgt : Int)) (hk : xm_cmpI E u w (fun E s => bif xm_holds .lt s then kt lv st G E kc ks else kf lv st G E kc ks) = true) (gt : xs_good p l e R s m args below meth c Qf nL Z kt tgt) (gf : xs_good p l e R s m args below meth c Qf nL Z kf (pc + 3)) (S : xs_St Z nL lv G E H locs ls) : W p l e R s m args below meth c H locs kc ks Qf (F0 m pc ls ((w :: u :: st).map (xs_cv Z))) := by
  obtain ⟨E1, x, y, h1, s1, hx, hy⟩ := xs_cmpI hk S.1
  rw [List.map_cons, List.map_cons, hx, hy]
  have hh := (xs_holds x y).2.2.1
  refine lv_icmp_lt X.1 X.2.1 hd ht (fun h => ?_) (fun h => ?_)
  · rw [hh.mpr h] at h1
    exact gt lv st G E1 kc ks h1 H locs ls ⟨s1, S.2⟩
  · have hf : xm_holds .lt (xm_sgn x.toInt (y : Int32).toInt) = false := Bool.eq_false_iff.mpr (fun q => h (hh.mp q))
    rw [hf] at h1
    exact gf lv st G E1 kc ks h1 H locs ls ⟨s1, S.2⟩
theorem xb_ifCond_ge (X : xs_Cx p s m args c cc nL o Z) {w : Value} {off : Int} (hd : decode cc pc = .ok (.ifCond .ge off, 3)) (ht : (pc : Int) + off = (tgt : Int)) (hk : xm_cmpI E w (.int 0) (fun E s => bif xm_holds .ge s then kt lv st G E kc ks else kf lv st G E kc ks) = true) (gt : xs_good p l e R s m args below meth c Qf nL Z kt tgt) (gf : xs_good p l e R s m args below meth c Qf nL Z kf (pc + 3)) (S : xs_St Z nL lv G E H locs ls) : W p l e R s m args below meth c H locs kc ks Qf (F0 m pc ls ((w :: st).map (xs_cv Z))) := by
  obtain ⟨E1, x, y, h1, s1, hx, hy⟩ := xs_cmpI hk S.1
  rw [List.map_cons, hx]
  cases hy
  have hh := (xs_holds x 0).2.2.2.1
  refine lv_if_ge X.1 X.2.1 hd ht (fun h => ?_) (fun h => ?_)
  · rw [hh.mpr h] at h1
    exact gt lv st G E1 kc ks h1 H locs ls ⟨s1, S.2⟩
  · have hf : xm_holds .ge (xm_sgn x.toInt (0 : Int32).toInt) = false := Bool.eq_false_iff.mpr (fun q => h (hh.mp q))
    rw [hf] at h1
    exact gf lv st G E1 kc ks h1 H locs ls ⟨s1, S.2⟩
theorem xb_if_icmp_ge (X : xs_Cx p s m args c cc nL o Z) {w u : Value} {off : Int} (hd : decode cc pc = .ok (.if_icmp .ge off, 3)) (ht : (pc : Int) + off = (tgt : Int)) (hk : xm_cmpI E u w (fun E s => bif xm_holds .ge s then kt lv st G E kc ks else kf lv st G E kc ks) = true) (gt : xs_good p l e R s m args below meth c Qf nL Z kt tgt) (gf : xs_good p l e R s m args below meth c Qf nL Z kf (pc + 3)) (S : xs_St Z nL lv G E H locs ls) : W p l e R s m args below meth c H locs kc ks Qf (F0 m pc ls ((w :: u :: st).map (xs_cv Z))) := by
  obtain ⟨E1, x, y, h1, s1, hx, hy⟩ := xs_cmpI hk S.1
  rw [List.map_cons, List.map_cons, hx, hy]
  have hh := (xs_holds x y).2.2.2.1
  refine lv_icmp_ge X.1 X.2.1 hd ht (fun h => ?_) (fun h => ?_)
  · rw [hh.mpr h] at h1
    exact gt lv st G E1 kc ks h1 H locs ls ⟨s1, S.2⟩
  · have hf : xm_holds .ge (xm_sgn x.toInt (y : Int32).toInt) = false := Bool.eq_false_iff.mpr (fun q => h (hh.mp q))
    rw [hf] at h1
    exact gf lv st G E1 kc ks h1 H locs ls ⟨s1, S.2⟩
theorem xb_ifCond_gt (X : xs_Cx p s m args c cc nL o Z) {w : Value} {off : Int} (hd : decode cc pc = .ok (.ifCond .gt off, 3)) (ht : (pc : Int) + off = (tgt : Int)) (hk : xm_cmpI E w (.int 0) (fun E s => bif xm_holds .gt s then kt lv st G E kc ks else kf lv st G E kc ks) = true) (gt : xs_good p l e R s m args below meth c Qf nL Z kt tgt) (gf : xs_good p l e R s m args below meth c Qf nL Z kf (pc + 3)) (S : xs_St Z nL lv G E H locs ls) : W p l e R s m args below meth c H locs kc ks Qf (F0 m pc ls ((w :: st).map (xs_cv Z))) := by
  obtain ⟨E1, x, y, h1, s1, hx, hy⟩ := xs_cmpI hk S.1
  rw [List.map_cons, hx]
  cases hy
  have hh := (xs_holds x 0).2.2.2.2.1
  refine lv_if_gt X.1 X.2.1 hd ht (fun h => ?_) (fun h => ?_)
  · rw [hh.mpr h] at h1
    exact gt lv st G E1 kc ks h1 H locs ls ⟨s1, S.2⟩
  · have hf : xm_holds .gt (xm_sgn x.toInt (0 : Int32).toInt) = false := Bool.eq_false_iff.mpr (fun q => h (hh.mp q))
    rw [hf] at h1
    exact gf lv st G E1 kc ks h1 H locs ls ⟨s1, S.2⟩
theorem xb_if_icmp_gt (X : xs_Cx p s m args c cc nL o Z) {w u : Value} {off : Int} (hd : decode cc pc = .ok (.if_icmp .gt off, 3)) (ht : (pc : Int) + off = (tgt : Int)) (hk : xm_cmpI E u w (fun E s => bif xm_holds .gt s then kt lv st G E kc ks else kf lv st G E kc ks) = true) (gt : xs_good p l e R s m args below meth c Qf nL Z kt tgt) (gf : xs_good p l e R s m args below meth c Qf nL Z kf (pc + 3)) (S : xs_St Z nL lv G E H locs ls) : W p l e R s m args below meth c H locs kc ks Qf (F0 m pc ls ((w :: u :: st).map (xs_cv Z))) := by
  obtain ⟨E1, x, y, h1, s1, hx, hy⟩ := xs_cmpI hk S.1
  rw [List.map_cons, List.map_cons, hx, hy]
  have hh := (xs_holds x y).2.2.2.2.1
  refine lv_icmp_gt X.1 X.2.1 hd ht (fun h => ?_) (fun h => ?_)
  · rw [hh.mpr h] at h1
    exact gt lv st G E1 kc ks h1 H locs ls ⟨s1, S.2⟩
  · have hf : xm_holds .gt (xm_sgn x.toInt (y : Int32).toInt) = false := Bool.eq_false_iff.mpr (fun q => h (hh.mp q))
    rw [hf] at h1
    exact gf lv st G E1 kc ks h1 H locs ls ⟨s1, S.2⟩
theorem xb_ifCond_le (X : xs_Cx p s m args c cc nL o Z) {w : Value} {off : Int} (hd : decode cc pc = .ok (.ifCond .le off, 3)) (ht : (pc : Int) + off = (tgt : Int)) (hk : xm_cmpI E w (.int 0) (fun E s => bif xm_holds .le s then kt lv st G E kc ks else kf lv st G E kc ks) = true) (gt : xs_good p l e R s m args below meth c Qf nL Z kt tgt) (gf : xs_good p l e R s m args below meth c Qf nL Z kf (pc + 3)) (S : xs_St Z nL lv G E H locs ls) : W p l e R s m args below meth c H locs kc ks Qf (F0 m pc ls ((w :: st).map (xs_cv Z))) := by
  obtain ⟨E1, x, y, h1, s1, hx, hy⟩ := xs_cmpI hk S.1
  rw [List.map_cons, hx]
  cases hy
  have hh := (xs_holds x 0).2.2.2.2.2
  refine lv_if_le X.1 X.2.1 hd ht (fun h => ?_) (fun h => ?_)
  · rw [hh.mpr h] at h1
    exact gt lv st G E1 kc ks h1 H locs ls ⟨s1, S.2⟩
  · have hf : xm_holds .le (xm_sgn x.toInt (0 : Int32).toInt) = false := Bool.eq_false_iff.mpr (fun q => h (hh.mp q))
    rw [hf] at h1
    exact gf lv st G E1 kc ks h1 H locs ls ⟨s1, S.2⟩
theorem xb_if_icmp_le (X : xs_Cx p s m args c cc nL o Z) {w u : Value} {off : Int} (hd : decode cc pc = .ok (.if_icmp .le off, 3)) (ht : (pc : Int) + off = (tgt : Int)) (hk : xm_cmpI E u w (fun E s => bif xm_holds .le s then kt lv st G E kc ks else kf lv st G E kc ks) = true) (gt : xs_good p l e R s m args below meth c Qf nL Z kt tgt) (gf : xs_good p l e R s m args below meth c Qf nL Z kf (pc + 3)) (S : xs_St Z nL lv G E H locs ls) : W p l e R s m args below meth c H locs kc ks Qf (F0 m pc ls ((w :: u :: st).map (xs_cv Z))) := by
  obtain ⟨E1, x, y, h1, s1, hx, hy⟩ := xs_cmpI hk S.1
  rw [List.map_cons, List.map_cons, hx, hy]
  have hh := (xs_holds x y).2.2.2.2.2
  refine lv_icmp_le X.1 X.2.1 hd ht (fun h => ?_) (fun h => ?_)
  · rw [hh.mpr h] at h1
    exact gt lv st G E1 kc ks h1 H locs ls ⟨s1, S.2⟩
  · have hf : xm_holds .le (xm_sgn x.toInt (y : Int32).toInt) = false := Bool.eq_false_iff.mpr (fun q => h (hh.mp q))
    rw [hf] at h1
    exact gf lv st G E1 kc ks h1 H locs ls ⟨s1, S.2⟩
theorem xb_goto (X : xs_Cx p s m args c cc nL o Z) {off : Int} (hd : decode cc pc = .ok (.goto off, 3)) (ht : (pc : Int) + off = (tgt : Int)) (hk : kt lv st G E kc ks = true) (gt : xs_good p l e R s m args below meth c Qf nL Z kt tgt) (S : xs_St Z nL lv G E H locs ls) : W p l e R s m args below meth c H locs kc ks Qf (F0 m pc ls (st.map (xs_cv Z))) :=
  lv_goto X.1 X.2.1 hd ht (gt lv st G E kc ks hk H locs ls S)
theorem xb_ifnull_r (X : xs_Cx p s m args c cc nL o Z) {j : Nat} {off : Int} (hd : decode cc pc = .ok (.ifnull off, 3)) (ht : (pc : Int) + off = (tgt : Int)) (hk : kf lv st G E kc ks = true) (gt : xs_good p l e R s m args below meth c Qf nL Z kt tgt) (gf : xs_good p l e R s m args below meth c Qf nL Z kf (pc + 3)) (S : xs_St Z nL lv G E H locs ls) : W p l e R s m args below meth c H locs kc ks Qf (F0 m pc ls ((.ref j :: st).map (xs_cv Z))) :=
  lv_ifnull X.1 X.2.1 hd (gf lv st G E kc ks hk H locs ls S)
theorem xb_ifnull_n (X : xs_Cx p s m args c cc nL o Z) {off : Int} (hd : decode cc pc = .ok (.ifnull off, 3)) (ht : (pc : Int) + off = (tgt : Int)) (hk : kt lv st G E kc ks = true) (gt : xs_good p l e R s m args below meth c Qf nL Z kt tgt) (gf : xs_good p l e R s m args below meth c Qf nL Z kf (pc + 3)) (S : xs_St Z nL lv G E H locs ls) : W p l e R s m args below meth c H locs kc ks Qf (F0 m pc ls ((.null :: st).map (xs_cv Z))) :=
  lv_ifnullN X.1 X.2.1 hd ht (gt lv st G E kc ks hk H locs ls S)
theorem xb_ifnonnull_r (X : xs_Cx p s m args c cc nL o Z) {j : Nat} {off : Int} (hd : decode cc pc = .ok (.ifnonnull off, 3)) (ht : (pc : Int) + off = (tgt : Int)) (hk : kt lv st G E kc ks = true) (gt : xs_good p l e R s m args below meth c Qf nL Z kt tgt) (gf : xs_good p l e R s m args below meth c Qf nL Z kf (pc + 3)) (S : xs_St Z nL lv G E H locs ls) : W p l e R s m args below meth c H locs kc ks Qf (F0 m pc ls ((.ref j :: st).map (xs_cv Z))) :=
  lv_ifnonnull X.1 X.2.1 hd ht (gt lv st G E kc ks hk H locs ls S)
theorem xb_ifnonnull_n (X : xs_Cx p s m args c cc nL o Z) {off : Int} (hd : decode cc pc = .ok (.ifnonnull off, 3)) (ht : (pc : Int) + off = (tgt : Int)) (hk : kf lv st G E kc ks = true) (gt : xs_good p l e R s m args below meth c Qf nL Z kt tgt) (gf : xs_good p l e R s m args below meth c Qf nL Z kf (pc + 3)) (S : xs_St Z nL lv G E H locs ls) : W p l e R s m args below meth c H locs kc ks Qf (F0 m pc ls ((.null :: st).map (xs_cv Z))) :=
  lv_ifnonnullN X.1 X.2.1 hd (gf lv st G E kc ks hk H locs ls S)
end XB
end
section
/-! one row an instruction: the heap -/
section XC
variable {Z : xs_Z} {G : xm_H} {H : Heap}
theorem xs_nocls {t : Nat} (h : 100 ≤ t) : xm_cls[t]? = none := List.getElem?_eq_none (by show 12 ≤ t; omega)
theorem xs_arr {j t : Nat} {vs : List Value} (h : xs_HW Z G H) (hg : xm_hget G j = some (t, vs)) (h1 : 100 ≤ t) (h2 : t < 108) : j < G.1 ∧ H[xs_rho Z j]? = some (arrV (Z.2.1 (t - 100)) vs.length (fun k => xs_cv Z (vs.getD k .null))) := by
  obtain ⟨hj, hh⟩ := h.2.2 j _ hg
  refine ⟨hj, ?_⟩
  rcases hh with ⟨r, q1, -⟩ | ⟨-, -, q⟩ | ⟨q, -⟩ | ⟨q, -⟩
  · have q1 : xm_cls[t]? = some r := q1
    rw [xs_nocls h1] at q1
    cases q1
  · exact q
  · have q : t = 300 := q
    omega
  · have q : 200 ≤ t := q
    omega
theorem xs_obj {j t : Nat} {vs : List Value} {r : vw_C} (h : xs_HW Z G H) (hg : xm_hget G j = some (t, vs)) (hr : xm_cls[t]? = some r) : j < G.1 ∧ vs.length = r.2.2 ∧ t_OB (xs_rho Z j) (Z.1.1 t) r.2.2 (Z.1.2 t) H (fun k => xs_cv Z (vs.getD k .null)) := by
  have h12 : t < 12 := (List.getElem?_eq_some_iff.mp hr).1
  obtain ⟨hj, hh⟩ := h.2.2 j _ hg
  refine ⟨hj, ?_⟩
  rcases hh with ⟨r', q1, q2, q3⟩ | ⟨q, -⟩ | ⟨q, -⟩ | ⟨q, -⟩
  · have q1 : xm_cls[t]? = some r' := q1
    cases hr.symm.trans q1
    exact ⟨q2, q3⟩
  · have q : 100 ≤ t := q
    omega
  · have q : t = 300 := q
    omega
  · have q : 200 ≤ t := q
    omega
theorem xs_scr {vs : List Value} (h : xs_HW Z G H) (hg : xm_hget G 0 = some (300, vs)) : H[xs_rho Z 0]? = some Z.2.2.2.2.2 := by
  obtain ⟨hj, hh⟩ := h.2.2 0 _ hg
  rcases hh with ⟨r', q1, q2, q3⟩ | ⟨-, q, -⟩ | ⟨-, -, q⟩ | ⟨-, q⟩
  · have q1 : xm_cls[300]? = some r' := q1
    rw [xs_nocls (by decide)] at q1
    cases q1
  · have q : 300 < 108 := q
    omega
  · exact q
  · have q : 300 < 206 := q
    omega
theorem xs_arrcongr {cA : ClassId} {N : Nat} {f g : Nat → Value} (h : ∀ k, k < N → f k = g k) : arrV cA N f = arrV cA N g := by
  unfold arrV
  congr 1
  apply Array.ext
  · simp
  · intro i h1 h2
    simp only [Array.getElem_ofFn]
    exact h i (by simpa using h1)
theorem xs_arrset {cA : ClassId} {vs : List Value} {n : Nat} {w : Value} (hn : n < vs.length) : (arrV cA vs.length (fun k => xs_cv Z (vs.getD k .null))).setSlot n (xs_cv Z w) = arrV cA (vs.set n w).length (fun k => xs_cv Z ((vs.set n w).getD k .null)) := by
  rw [arrV_store, List.length_set]
  apply xs_arrcongr
  intro k hk
  show (if k = n then xs_cv Z w else xs_cv Z (vs.getD k .null)) = _
  by_cases e : k = n
  · subst e
    rw [if_pos rfl, List.getD_eq_getElem?_getD, List.getElem?_set_self hn]
    rfl
  · rw [if_neg e, List.getD_eq_getElem?_getD, List.getD_eq_getElem?_getD, List.getElem?_set_ne (fun q => e q.symm)]
theorem xs_in {x : Int32} {n : Nat} (h0 : 0 ≤ x.toInt) (h : x.toInt.toNat < n) : ¬ (x < 0 ∨ n ≤ x.toNatClampNeg) := by
  rintro (q | q)
  · have q1 : x.toInt < 0 := Int32.lt_iff_toInt_lt.mp q
    omega
  · have q1 : n ≤ x.toInt.toNat := q
    omega
theorem xs_read {cA : ClassId} {vs : List Value} {n : Nat} {w : Value} (h : vs[n]? = some w) : (arrV cA vs.length (fun k => xs_cv Z (vs.getD k .null))).slots[n]? = some (xs_cv Z w) := by
  have hl := (List.getElem?_eq_some_iff.mp h).1
  rw [arrV_read _ _ hl, List.getD_eq_getElem?_getD, h]
  rfl
end XC
section XD
variable {p : Program} {l : Launch} {e : Env} {R : Room} {s : State} {m : MethodId} {args : Array Value} {below : List Frame} {meth : Method} {c : Code} {Qf : State → Prop} {cc : ByteArray} {nL o : Nat} {Z : xs_Z}
variable {lv : xm_L} {st : List Value} {G : xm_H} {E : xm_R} {kc ks pc : Nat} {k : xm_K} {H : Heap} {locs : List Loc} {ls : Array Slot}
theorem xs_word (X : xs_Cx p s m args c cc nL o Z) {i : Nat} {w : Jvm.Cond} (h : xm_w i w = true) : w.before args s = true := X.2.2.2.2.1 w (xk_w h)
theorem xs_atk {l : List (Nat × Value × Nat)} {i : Nat} {v : Value} (h : xm_atk l i v = true) : ∃ r ∈ l, r.1 = i ∧ r.2.1 = v := by
  unfold xm_atk at h
  obtain ⟨r, hr, h1⟩ := List.any_eq_true.mp h
  rw [Bool.and_eq_true, decide_eq_true_eq] at h1
  exact ⟨r, hr, Nat.eq_of_beq_eq_true h1.1, h1.2⟩
theorem xs_at3 {l : List (Nat × Nat × Nat × Nat)} {i a b : Nat} (h : xm_at3 l (i, a, b) = true) : ∃ r ∈ l, r.1 = i ∧ r.2.1 = a ∧ r.2.2.1 = b := by
  unfold xm_at3 at h
  obtain ⟨r, hr, h1⟩ := List.any_eq_true.mp h
  rw [Bool.and_eq_true, Bool.and_eq_true] at h1
  exact ⟨r, hr, Nat.eq_of_beq_eq_true h1.1, Nat.eq_of_beq_eq_true h1.2.1, Nat.eq_of_beq_eq_true h1.2.2⟩
theorem xs_at2 {l : List (Nat × Nat × Nat)} {i a : Nat} (h : xm_at2 l (i, a) = true) : ∃ r ∈ l, r.1 = i ∧ r.2.1 = a := by
  unfold xm_at2 at h
  obtain ⟨r, hr, h1⟩ := List.any_eq_true.mp h
  rw [Bool.and_eq_true] at h1
  exact ⟨r, hr, Nat.eq_of_beq_eq_true h1.1, Nat.eq_of_beq_eq_true h1.2⟩
theorem xb_ldc (X : xs_Cx p s m args c cc nL o Z) {i : Nat} {v : Value} (hd : decode cc pc = .ok (.ldc i, 2)) (hv : xm_atk (xm_kl o) i v = true) (hi : xm_ki v = true) (hk : k lv (v :: st) G E kc ks = true) (g : xs_good p l e R s m args below meth c Qf nL Z k (pc + 2)) (S : xs_St Z nL lv G E H locs ls) : W p l e R s m args below meth c H locs kc ks Qf (F0 m pc ls (st.map (xs_cv Z))) := by
  obtain ⟨r, hr, e1, e2⟩ := xs_atk hv
  have h1 := List.all_eq_true.mp (xk_kl o X.2.2.2.2.2.2) r hr
  obtain ⟨ri, rv, rw_⟩ := r
  dsimp only at e1 e2
  subst e1 e2
  have h2 := g lv _ G E kc ks hk H locs ls S
  cases rv with
  | int z => exact lv_ldc X.1 X.2.1 X.2.2.2.1 (xs_word X h1) hd h2
  | ref j =>
    have h1 : (match xm_str[j - 1]? with
      | some t => decide (t.1 = xm_own o) && (Nat.beq t.2.1 ri && (Nat.ble 1 j && Nat.blt j 7))
      | none => false) = true := h1
    cases ht : xm_str[j - 1]? with
    | none => rw [ht] at h1; cases h1
    | some t =>
      rw [ht] at h1
      simp only [Bool.and_eq_true, decide_eq_true_eq] at h1
      obtain ⟨a1, a2, a3, a4⟩ := h1
      have a2 := Nat.eq_of_beq_eq_true a2
      have a3 : 1 ≤ j := Nat.le_of_ble_eq_true a3
      have a4 : j < 7 := Nat.le_of_ble_eq_true a4
      have hR := X.2.2.2.2.2.1.2.2.1 (j - 1) t ht
      rw [a1, a2, show j - 1 + 1 = j from Nat.sub_add_cancel a3] at hR
      have hj : xs_cv Z (.ref j) = .ref (Z.2.2.2.1 j) := by
        show Value.ref (xs_rho Z j) = _
        unfold xs_rho
        rw [if_pos a4]
      rw [List.map_cons, hj] at h2
      exact va_ldcS X.1 X.2.1 X.2.2.2.1 hR hd h2
  | _ => cases hi
theorem xb_ldc_w (X : xs_Cx p s m args c cc nL o Z) {i : Nat} {v : Value} (hd : decode cc pc = .ok (.ldc_w i, 3)) (hv : xm_atk (xm_kl o) i v = true) (hi : xm_kii v = true) (hk : k lv (v :: st) G E kc ks = true) (g : xs_good p l e R s m args below meth c Qf nL Z k (pc + 3)) (S : xs_St Z nL lv G E H locs ls) : W p l e R s m args below meth c H locs kc ks Qf (F0 m pc ls (st.map (xs_cv Z))) := by
  obtain ⟨r, hr, e1, e2⟩ := xs_atk hv
  have h1 := List.all_eq_true.mp (xk_kl o X.2.2.2.2.2.2) r hr
  obtain ⟨ri, rv, rw_⟩ := r
  dsimp only at e1 e2
  subst e1 e2
  have h2 := g lv _ G E kc ks hk H locs ls S
  cases rv with
  | int z => exact lv_ldcw X.1 X.2.1 X.2.2.2.1 (xs_word X h1) hd h2
  | _ => cases hi
theorem xb_ldc2_w (X : xs_Cx p s m args c cc nL o Z) {i : Nat} {v : Value} (hd : decode cc pc = .ok (.ldc2_w i, 3)) (hv : xm_atk (xm_kl o) i v = true) (hi : xm_kll v = true) (hk : k lv (v :: st) G E kc ks = true) (g : xs_good p l e R s m args below meth c Qf nL Z k (pc + 3)) (S : xs_St Z nL lv G E H locs ls) : W p l e R s m args below meth c H locs kc ks Qf (F0 m pc ls (st.map (xs_cv Z))) := by
  obtain ⟨r, hr, e1, e2⟩ := xs_atk hv
  have h1 := List.all_eq_true.mp (xk_kl o X.2.2.2.2.2.2) r hr
  obtain ⟨ri, rv, rw_⟩ := r
  dsimp only at e1 e2
  subst e1 e2
  have h2 := g lv _ G E kc ks hk H locs ls S
  cases rv with
  | long z => exact lv_ldc2 X.1 X.2.1 X.2.2.2.1 (xs_word X h1) hd h2
  | _ => cases hi
theorem xs_rd {ok : Nat → Bool} {j : Nat} {x : Int32} {kk : Value → Bool} (h : xm_rd ok G j x kk = true) : ∃ t vs w, xm_hget G j = some (t, vs) ∧ ok t = true ∧ 0 ≤ x.toInt ∧ vs[x.toInt.toNat]? = some w ∧ kk w = true := by
  unfold xm_rd at h
  cases hg : xm_hget G j with
  | none => rw [hg] at h; cases h
  | some q =>
    obtain ⟨t, vs⟩ := q
    rw [hg] at h
    dsimp only at h
    cases hc : (ok t && decide (0 ≤ x.toInt)) with
    | false => rw [hc] at h; cases h
    | true =>
      rw [hc, cond_true, xl_nth] at h
      rw [Bool.and_eq_true, decide_eq_true_eq] at hc
      cases hw : vs[x.toInt.toNat]? with
      | none => rw [hw] at h; cases h
      | some w =>
        rw [hw] at h
        exact ⟨t, vs, w, rfl, hc.1, hc.2, hw, h⟩
theorem xs_ald {ok : Nat → Bool} {kk : List Value → xm_R → Bool} (h : xm_ald ok st G E kk = true) (hs : xs_sat Z E) : ∃ ix j st' E' x t vs w, st = ix :: .ref j :: st' ∧ xs_cv Z ix = .int x ∧ xm_hget G j = some (t, vs) ∧ ok t = true ∧ 0 ≤ x.toInt ∧ vs[x.toInt.toNat]? = some w ∧ xs_sat Z E' ∧ kk (w :: st') E' = true := by
  unfold xm_ald at h
  split at h
  · rename_i ix j st'
    obtain ⟨E', x, h1, s1, hx⟩ := xs_conc h hs
    obtain ⟨t, vs, w, a1, a2, a3, a4, a5⟩ := xs_rd h1
    exact ⟨ix, j, st', E', x, t, vs, w, rfl, hx, a1, a2, a3, a4, s1, a5⟩
  · cases h
theorem xb_ald_i (X : xs_Cx p s m args c cc nL o Z) (hd : decode cc pc = .ok (.iaload, 1)) (hk : xm_ald (fun t => Nat.beq t 100) st G E (fun st E => k lv st G E kc ks) = true) (g : xs_good p l e R s m args below meth c Qf nL Z k (pc + 1)) (S : xs_St Z nL lv G E H locs ls) : W p l e R s m args below meth c H locs kc ks Qf (F0 m pc ls (st.map (xs_cv Z))) := by
  obtain ⟨ix, j, st', E', x, t, vs, w, rfl, hx, a1, a2, a3, a4, s1, a5⟩ := xs_ald hk S.1
  have a2 := Nat.eq_of_beq_eq_true a2
  subst a2
  obtain ⟨-, hc⟩ := xs_arr S.2.1 a1 (by decide) (by decide)
  have hl := (List.getElem?_eq_some_iff.mp a4).1
  rw [List.map_cons, hx]
  exact W.iald (v := xs_cv Z w) X.1 X.2.1 hc ((X.2.2.2.2.2.1.1.2 0 _ rfl).1 _ _) (fun q => by cases q) (by rw [arrV_size]; exact xs_in a3 hl) (xs_read a4) rfl rfl hd (g lv _ G E' kc ks a5 H locs ls ⟨s1, S.2⟩)
theorem xb_iaload (X : xs_Cx p s m args c cc nL o Z) (hd : decode cc pc = .ok (.iaload, 1)) (hk : xm_iald st G E (fun st E => k lv st G E kc ks) = true) (g : xs_good p l e R s m args below meth c Qf nL Z k (pc + 1)) (S : xs_St Z nL lv G E H locs ls) : W p l e R s m args below meth c H locs kc ks Qf (F0 m pc ls (st.map (xs_cv Z))) := by
  unfold xm_iald at hk
  split at hk
  · rename_i ix j st'
    cases hj : Nat.beq j 0 with
    | false =>
      rw [hj] at hk
      exact xb_ald_i X hd hk g S
    | true =>
      rw [hj, cond_true] at hk
      have hj := Nat.eq_of_beq_eq_true hj
      subst hj
      cases h0 : xm_hget G 0 with
      | none => rw [h0] at hk; cases hk
      | some q =>
        obtain ⟨t, vs⟩ := q
        rw [h0] at hk
        dsimp only at hk
        cases h3 : Nat.beq t 300 with
        | false => rw [h3] at hk; cases hk
        | true =>
          rw [h3, cond_true] at hk
          have h3 := Nat.eq_of_beq_eq_true h3
          subst h3
          obtain ⟨E', x, h1, s1, hx⟩ := xs_conc hk S.1
          rw [xl_nth] at h1
          cases h6 : E'[6]? with
          | none => rw [h6] at h1; cases h1
          | some q =>
            obtain ⟨lo, hi⟩ := q
            rw [h6] at h1
            dsimp only at h1
            cases hc : (decide (0 ≤ x.toInt) && decide (x.toInt < lo)) with
            | false => rw [hc] at h1; cases h1
            | true =>
              rw [hc, cond_true] at h1
              rw [Bool.and_eq_true, decide_eq_true_eq, decide_eq_true_eq] at hc
              obtain ⟨k1, k2, k3, k4, k5⟩ := X.2.2.2.2.2.1.2.2.2.1
              have hb := (s1 6 lo hi h6).1
              rw [k4, nI_toInt k3] at hb
              have hlt : x.toInt.toNat < Z.2.2.2.2.2.slots.size := by omega
              rw [List.map_cons, hx]
              exact W.iald (v := .int (xs_n Z x.toInt.toNat)) X.1 X.2.1 (xs_scr S.2.1 h0) k1 k2 (xs_in hc.1 hlt) (k5 _ hlt) rfl rfl hd (g lv _ G E' kc ks h1 H locs ls ⟨s1, S.2⟩)
  · cases hk
theorem xb_laload (X : xs_Cx p s m args c cc nL o Z) (hd : decode cc pc = .ok (.laload, 1)) (hk : xm_ald (fun t => Nat.beq t 102) st G E (fun st E => k lv st G E kc ks) = true) (g : xs_good p l e R s m args below meth c Qf nL Z k (pc + 1)) (S : xs_St Z nL lv G E H locs ls) : W p l e R s m args below meth c H locs kc ks Qf (F0 m pc ls (st.map (xs_cv Z))) := by
  obtain ⟨ix, j, st', E', x, t, vs, w, rfl, hx, a1, a2, a3, a4, s1, a5⟩ := xs_ald hk S.1
  have a2 := Nat.eq_of_beq_eq_true a2
  subst a2
  obtain ⟨-, hc⟩ := xs_arr S.2.1 a1 (by decide) (by decide)
  have hl := (List.getElem?_eq_some_iff.mp a4).1
  rw [List.map_cons, hx]
  exact W.lald (v := xs_cv Z w) X.1 X.2.1 hc ((X.2.2.2.2.2.1.1.2 2 _ rfl).1 _ _) (fun q => by cases q) (by rw [arrV_size]; exact xs_in a3 hl) (xs_read a4) rfl rfl hd (g lv _ G E' kc ks a5 H locs ls ⟨s1, S.2⟩)
theorem xb_baload (X : xs_Cx p s m args c cc nL o Z) (hd : decode cc pc = .ok (.baload, 1)) (hk : xm_bald st G E (fun st E => k lv st G E kc ks) = true) (g : xs_good p l e R s m args below meth c Qf nL Z k (pc + 1)) (S : xs_St Z nL lv G E H locs ls) : W p l e R s m args below meth c H locs kc ks Qf (F0 m pc ls (st.map (xs_cv Z))) := by
  unfold xm_bald at hk
  split at hk
  · rename_i ix0 j0 st0
    cases h0 : xm_hget G j0 with
    | none => rw [h0] at hk; cases hk
    | some q =>
      obtain ⟨t0, vs0⟩ := q
      rw [h0] at hk
      dsimp only at hk
      cases h3 : Nat.beq t0 103 with
      | true =>
        rw [h3, cond_true] at hk
        obtain ⟨ix, j, st', E', x, t, vs, w, e0, hx, a1, a2, a3, a4, s1, a5⟩ := xs_ald hk S.1
        cases e0
        have a2 := Nat.eq_of_beq_eq_true a2
        subst a2
        obtain ⟨-, hc⟩ := xs_arr S.2.1 a1 (by decide) (by decide)
        have hl := (List.getElem?_eq_some_iff.mp a4).1
        rw [List.map_cons, hx]
        exact W.zald (v := xs_cv Z w) X.1 X.2.1 hc ((X.2.2.2.2.2.1.1.2 3 _ rfl).1 _ _) (fun q => by cases q) (by rw [arrV_size]; exact xs_in a3 hl) (xs_read a4) rfl rfl hd (g lv _ G E' kc ks a5 H locs ls ⟨s1, S.2⟩)
      | false =>
        rw [h3, cond_false] at hk
        obtain ⟨ix, j, st', E', x, t, vs, w, e0, hx, a1, a2, a3, a4, s1, a5⟩ := xs_ald hk S.1
        cases e0
        have a2 := Nat.eq_of_beq_eq_true a2
        subst a2
        obtain ⟨-, hc⟩ := xs_arr S.2.1 a1 (by decide) (by decide)
        have hl := (List.getElem?_eq_some_iff.mp a4).1
        rw [List.map_cons, hx]
        exact W.bald (v := xs_cv Z w) X.1 X.2.1 hc ((X.2.2.2.2.2.1.1.2 1 _ rfl).1 _ _) (fun q => by cases q) (by rw [arrV_size]; exact xs_in a3 hl) (xs_read a4) rfl rfl hd (g lv _ G E' kc ks a5 H locs ls ⟨s1, S.2⟩)
  · cases hk
theorem xs_isAr {t : Nat} (h : xm_isAr t = true) : t = 104 ∨ t = 105 ∨ t = 106 ∨ t = 107 := by
  unfold xm_isAr at h
  split at h
  · exact Or.inl rfl
  · exact Or.inr (Or.inl rfl)
  · exact Or.inr (Or.inr (Or.inl rfl))
  · exact Or.inr (Or.inr (Or.inr rfl))
  · cases h
theorem xb_aaload (X : xs_Cx p s m args c cc nL o Z) (hd : decode cc pc = .ok (.aaload, 1)) (hk : xm_ald xm_isAr st G E (fun st E => k lv st G E kc ks) = true) (g : xs_good p l e R s m args below meth c Qf nL Z k (pc + 1)) (S : xs_St Z nL lv G E H locs ls) : W p l e R s m args below meth c H locs kc ks Qf (F0 m pc ls (st.map (xs_cv Z))) := by
  obtain ⟨ix, j, st', E', x, t, vs, w, rfl, hx, a1, a2, a3, a4, s1, a5⟩ := xs_ald hk S.1
  have hl := (List.getElem?_eq_some_iff.mp a4).1
  rw [List.map_cons, hx]
  rcases xs_isAr a2 with rfl | rfl | rfl | rfl
  · obtain ⟨-, hc⟩ := xs_arr S.2.1 a1 (by decide) (by decide)
    exact W.aald (v := xs_cv Z w) X.1 X.2.1 hc ((X.2.2.2.2.2.1.1.2 4 _ rfl).1 _ _) rfl (fun q => by cases q) (by rw [arrV_size]; exact xs_in a3 hl) (xs_read a4) rfl rfl hd (g lv _ G E' kc ks a5 H locs ls ⟨s1, S.2⟩)
  · obtain ⟨-, hc⟩ := xs_arr S.2.1 a1 (by decide) (by decide)
    exact W.aald (v := xs_cv Z w) X.1 X.2.1 hc ((X.2.2.2.2.2.1.1.2 5 _ rfl).1 _ _) rfl (fun q => by cases q) (by rw [arrV_size]; exact xs_in a3 hl) (xs_read a4) rfl rfl hd (g lv _ G E' kc ks a5 H locs ls ⟨s1, S.2⟩)
  · obtain ⟨-, hc⟩ := xs_arr S.2.1 a1 (by decide) (by decide)
    exact W.aald (v := xs_cv Z w) X.1 X.2.1 hc ((X.2.2.2.2.2.1.1.2 6 _ rfl).1 _ _) rfl (fun q => by cases q) (by rw [arrV_size]; exact xs_in a3 hl) (xs_read a4) rfl rfl hd (g lv _ G E' kc ks a5 H locs ls ⟨s1, S.2⟩)
  · obtain ⟨-, hc⟩ := xs_arr S.2.1 a1 (by decide) (by decide)
    exact W.aald (v := xs_cv Z w) X.1 X.2.1 hc ((X.2.2.2.2.2.1.1.2 7 _ rfl).1 _ _) rfl (fun q => by cases q) (by rw [arrV_size]; exact xs_in a3 hl) (xs_read a4) rfl rfl hd (g lv _ G E' kc ks a5 H locs ls ⟨s1, S.2⟩)
end XD
end
section
/-! one row an instruction: writing and making -/
section XE
variable {p : Program} {l : Launch} {e : Env} {R : Room} {s : State} {m : MethodId} {args : Array Value} {below : List Frame} {meth : Method} {c : Code} {Qf : State → Prop} {cc : ByteArray} {nL o : Nat} {Z : xs_Z}
variable {lv : xm_L} {st : List Value} {G : xm_H} {E : xm_R} {kc ks pc mc ms : Nat} {k : xm_K} {H : Heap} {locs : List Loc} {ls : Array Slot}
theorem xs_wr {ok : Nat → Bool} {j : Nat} {x : Int32} {w : Value} {kk : xm_H → Bool} (h : xm_wr ok G j x w kk = true) : ∃ t vs, xm_hget G j = some (t, vs) ∧ ok t = true ∧ 0 ≤ x.toInt ∧ 7 ≤ j ∧ x.toInt.toNat < vs.length ∧ kk (xm_hput G j (t, vs.set x.toInt.toNat w)) = true := by
  unfold xm_wr at h
  cases hg : xm_hget G j with
  | none => rw [hg] at h; cases h
  | some q =>
    obtain ⟨t, vs⟩ := q
    rw [hg] at h
    dsimp only at h
    cases hc : (ok t && (decide (0 ≤ x.toInt) && Nat.ble 7 j)) with
    | false => rw [hc] at h; cases h
    | true =>
      rw [hc, cond_true, xl_nth, xl_put] at h
      rw [Bool.and_eq_true, Bool.and_eq_true, decide_eq_true_eq] at hc
      cases hw : vs[x.toInt.toNat]? with
      | none => rw [hw] at h; cases h
      | some w0 =>
        rw [hw] at h
        exact ⟨t, vs, rfl, hc.1, hc.2.1, Nat.le_of_ble_eq_true hc.2.2, (List.getElem?_eq_some_iff.mp hw).1, h⟩
theorem xs_ast {ok : Nat → Bool} {okv : Value → Option Value} {kk : List Value → xm_H → xm_R → Bool} (h : xm_ast ok okv st G E kk = true) (hs : xs_sat Z E) : ∃ w ix j st' w' E' x t vs, st = w :: ix :: .ref j :: st' ∧ okv w = some w' ∧ xs_cv Z ix = .int x ∧ xm_hget G j = some (t, vs) ∧ ok t = true ∧ 0 ≤ x.toInt ∧ 7 ≤ j ∧ x.toInt.toNat < vs.length ∧ xs_sat Z E' ∧ kk st' (xm_hput G j (t, vs.set x.toInt.toNat w')) E' = true := by
  unfold xm_ast at h
  split at h
  · rename_i w ix j st'
    cases hw : okv w with
    | none => rw [hw] at h; cases h
    | some w' =>
      rw [hw] at h
      dsimp only at h
      obtain ⟨E', x, h1, s1, hx⟩ := xs_conc h hs
      obtain ⟨t, vs, a1, a2, a3, a4, a5, a6⟩ := xs_wr h1
      exact ⟨w, ix, j, st', w', E', x, t, vs, rfl, hw, hx, a1, a2, a3, a4, a5, s1, a6⟩
  · cases h
/-- behind a store into an array -/
theorem xs_stored (X : xs_Cx p s m args c cc nL o Z) (S : xs_St Z nL lv G E H locs ls) {j t : Nat} {vs : List Value} {n : Nat} {w : Value} (a1 : xm_hget G j = some (t, vs)) (h1 : 100 ≤ t) (h2 : t < 108) (hj : 7 ≤ j) (hn : n < vs.length) {H1 : Heap} (e1 : H1[xs_rho Z j]? = some ((arrV (Z.2.1 (t - 100)) vs.length (fun k => xs_cv Z (vs.getD k .null))).setSlot n (xs_cv Z w))) (z1 : H1.size = H.size) (o1 : ∀ q, q ≠ xs_rho Z j → H1[q]? = H[q]?) {E' : xm_R} (s1 : xs_sat Z E') (n' : Nat) : xs_St Z nL lv (xm_hput G j (t, vs.set n w)) E' H1 (locs ++ [⟨xs_rho Z j, n'⟩]) ls := by
  obtain ⟨hlt, -⟩ := xs_arr S.2.1 a1 h1 h2
  refine ⟨s1, S.2.1.put X.2.2.2.2.2.1.2.2.2.2.1 hj hlt z1 o1 (Or.inr (Or.inl ⟨h1, h2, ?_⟩)), S.2.2.1, fun q hq => ?_⟩
  · rw [e1, xs_arrset hn]
  · rcases List.mem_append.mp hq with h | h
    · exact S.2.2.2 q h
    · rw [List.mem_singleton.mp h]
      exact xs_lo hj
theorem xb_iastore (X : xs_Cx p s m args c cc nL o Z) (hd : decode cc pc = .ok (.iastore, 1)) (hk : xm_ast (fun t => Nat.beq t 100) xm_kI st G E (fun st G E => k lv st G E kc ks) = true) (g : xs_good p l e R s m args below meth c Qf nL Z k (pc + 1)) (S : xs_St Z nL lv G E H locs ls) : W p l e R s m args below meth c H locs kc ks Qf (F0 m pc ls (st.map (xs_cv Z))) := by
  obtain ⟨w, ix, j, st', w', E', x, t, vs, rfl, hw, hx, a1, a2, a3, a4, a5, s1, a6⟩ := xs_ast hk S.1
  have a2 := Nat.eq_of_beq_eq_true a2
  subst a2
  unfold xm_kI at hw
  cases hI : xm_isI w with
  | false => rw [hI] at hw; cases hw
  | true =>
    rw [hI] at hw
    cases hw
    obtain ⟨z, hz⟩ := xs_I (Z := Z) hI
    obtain ⟨-, hc⟩ := xs_arr S.2.1 a1 (by decide) (by decide)
    rw [List.map_cons, List.map_cons, hz, hx]
    refine W.iast X.1 X.2.1 hc ((X.2.2.2.2.2.1.1.2 0 _ rfl).1 _ _) (fun q => by cases q) (by rw [arrV_size]; exact xs_in a3 a5) rfl rfl hd (fun H1 e1 z1 o1 => g lv st' _ E' kc ks a6 H1 _ ls (xs_stored X S a1 (by decide) (by decide) a4 a5 ?_ z1 o1 s1 _))
    rw [hz]
    exact e1
theorem xb_lastore (X : xs_Cx p s m args c cc nL o Z) (hd : decode cc pc = .ok (.lastore, 1)) (hk : xm_ast (fun t => Nat.beq t 102) xm_kL st G E (fun st G E => k lv st G E kc ks) = true) (g : xs_good p l e R s m args below meth c Qf nL Z k (pc + 1)) (S : xs_St Z nL lv G E H locs ls) : W p l e R s m args below meth c H locs kc ks Qf (F0 m pc ls (st.map (xs_cv Z))) := by
  obtain ⟨w, ix, j, st', w', E', x, t, vs, rfl, hw, hx, a1, a2, a3, a4, a5, s1, a6⟩ := xs_ast hk S.1
  have a2 := Nat.eq_of_beq_eq_true a2
  subst a2
  cases w with
  | long y =>
    cases hw
    obtain ⟨-, hc⟩ := xs_arr S.2.1 a1 (by decide) (by decide)
    rw [List.map_cons, List.map_cons, hx]
    exact W.last X.1 X.2.1 hc ((X.2.2.2.2.2.1.1.2 2 _ rfl).1 _ _) (fun q => by cases q) (by rw [arrV_size]; exact xs_in a3 a5) rfl rfl hd (fun H1 e1 z1 o1 => g lv st' _ E' kc ks a6 H1 _ ls (xs_stored X S a1 (by decide) (by decide) a4 a5 e1 z1 o1 s1 _))
  | _ => cases hw
theorem xs_kB {w w' : Value} (h : xm_kB w = some w') : ∃ z, xs_cv Z w = .int z ∧ narrow .byte (.int z) = xs_cv Z w' := by
  cases w with
  | int x =>
    cases h
    exact ⟨x, rfl, rfl⟩
  | float u =>
    unfold xm_kB at h
    dsimp only at h
    cases hc : Nat.beq (u.toNat / 32 % 2) 1 with
    | false => rw [hc] at h; cases h
    | true =>
      rw [hc] at h
      cases h
      have hc := Nat.eq_of_beq_eq_true hc
      refine ⟨_, rfl, ?_⟩
      show narrow .byte (.int (xs_sh (xs_n Z) u.toNat)) = .int (xs_sh (xs_n Z) u.toNat)
      unfold xs_sh
      rw [if_pos hc]
      exact pk_nb _
  | _ => cases h
theorem xs_kZ {w w' : Value} (h : xm_kZ w = some w') : ∃ z, xs_cv Z w = .int z ∧ narrow .boolean (.int z) = xs_cv Z w' := by
  cases w with
  | int x =>
    unfold xm_kZ at h
    dsimp only at h
    cases hc : (decide (x = 0) || decide (x = 1)) with
    | false => rw [hc] at h; cases h
    | true =>
      rw [hc] at h
      cases h
      rw [Bool.or_eq_true, decide_eq_true_eq, decide_eq_true_eq] at hc
      rcases hc with rfl | rfl
      · exact ⟨0, rfl, rfl⟩
      · exact ⟨1, rfl, rfl⟩
  | _ => cases h
theorem xb_bastore (X : xs_Cx p s m args c cc nL o Z) (hd : decode cc pc = .ok (.bastore, 1)) (hk : xm_bast st G E (fun st G E => k lv st G E kc ks) = true) (g : xs_good p l e R s m args below meth c Qf nL Z k (pc + 1)) (S : xs_St Z nL lv G E H locs ls) : W p l e R s m args below meth c H locs kc ks Qf (F0 m pc ls (st.map (xs_cv Z))) := by
  unfold xm_bast at hk
  split at hk
  · rename_i w0 ix0 j0 st0
    cases h0 : xm_hget G j0 with
    | none => rw [h0] at hk; cases hk
    | some q =>
      obtain ⟨t0, vs0⟩ := q
      rw [h0] at hk
      dsimp only at hk
      cases h3 : Nat.beq t0 103 with
      | true =>
        rw [h3, cond_true] at hk
        obtain ⟨w, ix, j, st', w', E', x, t, vs, e0, hw, hx, a1, a2, a3, a4, a5, s1, a6⟩ := xs_ast hk S.1
        cases e0
        have a2 := Nat.eq_of_beq_eq_true a2
        subst a2
        obtain ⟨z, hz, hn⟩ := xs_kZ (Z := Z) hw
        obtain ⟨-, hc⟩ := xs_arr S.2.1 a1 (by decide) (by decide)
        rw [List.map_cons, List.map_cons, hz, hx]
        refine W.zast X.1 X.2.1 hc ((X.2.2.2.2.2.1.1.2 3 _ rfl).1 _ _) (fun q => by cases q) (by rw [arrV_size]; exact xs_in a3 a5) rfl rfl hd (fun H1 e1 z1 o1 => g lv _ _ E' kc ks a6 H1 _ ls (xs_stored X S a1 (by decide) (by decide) a4 a5 ?_ z1 o1 s1 _))
        rw [hn] at e1
        exact e1
      | false =>
        rw [h3, cond_false] at hk
        obtain ⟨w, ix, j, st', w', E', x, t, vs, e0, hw, hx, a1, a2, a3, a4, a5, s1, a6⟩ := xs_ast hk S.1
        cases e0
        have a2 := Nat.eq_of_beq_eq_true a2
        subst a2
        obtain ⟨z, hz, hn⟩ := xs_kB (Z := Z) hw
        obtain ⟨-, hc⟩ := xs_arr S.2.1 a1 (by decide) (by decide)
        rw [List.map_cons, List.map_cons, hz, hx]
        refine W.bast X.1 X.2.1 hc ((X.2.2.2.2.2.1.1.2 1 _ rfl).1 _ _) (fun q => by cases q) (by rw [arrV_size]; exact xs_in a3 a5) rfl rfl hd (fun H1 e1 z1 o1 => g lv _ _ E' kc ks a6 H1 _ ls (xs_stored X S a1 (by decide) (by decide) a4 a5 ?_ z1 o1 s1 _))
        rw [hn] at e1
        exact e1
  · cases hk
theorem xs_recv (X : xs_Cx p s m args c cc nL o Z) (S : xs_HW Z G H) {j t : Nat} {vs : List Value} {r : vw_C} (hg : xm_hget G j = some (t, vs)) (hr : xm_cls[t]? = some r) : ∃ cell : Cell, H[xs_rho Z j]? = some cell ∧ cell.vm = .none ∧ s.vm.findClass r.1 = some cell.cls ∧ ∃ kC, s.vm.classes[cell.cls]? = some kC := by
  obtain ⟨-, -, cell, h1, h2, h3, -⟩ := xs_obj S hg hr
  obtain ⟨-, hfc, kC, hkC, -⟩ := X.2.2.2.2.2.1.1.1 t r hr
  exact ⟨cell, h1, h3, by rw [h2]; exact hfc, kC, by rw [h2]; exact hkC⟩
theorem xs_aast1 (X : xs_Cx p s m args c cc nL o Z) (hd : decode cc pc = .ok (.aastore, 1)) {q j : Nat} {i : Int32} {t c1 : Nat} {vs ws : List Value} {C : String} {st' : List Value} {E' : xm_R} (S : xs_St Z nL lv G E H locs ls) (hq : xm_hget G q = some (c1, ws)) (hcl : ∃ T N, xm_cls[c1]? = some (C, T, N)) (a1 : xm_hget G j = some (t, vs)) (h1 : 100 ≤ t) (h2 : t < 108) (ht : (xs_tys Z)[t - 100]? = some (Z.2.1 (t - 100), .object C)) (a3 : 0 ≤ i.toInt) (a4 : 7 ≤ j) (a5 : i.toInt.toNat < vs.length) (s1 : xs_sat Z E') (a6 : k lv st' (xm_hput G j (t, vs.set i.toInt.toNat (.ref q))) E' kc ks = true) (g : xs_good p l e R s m args below meth c Qf nL Z k (pc + 1)) : W p l e R s m args below meth c H locs kc ks Qf (F0 m pc ls (.ref (xs_rho Z q) :: .int i :: .ref (xs_rho Z j) :: st'.map (xs_cv Z))) := by
  obtain ⟨T, N, hcl⟩ := hcl
  obtain ⟨cellV, v1, v2, v3, kV, v4⟩ := xs_recv X S.2.1 hq hcl
  obtain ⟨-, hc⟩ := xs_arr S.2.1 a1 h1 h2
  obtain ⟨kA, comp, r1, r2, r3, -⟩ := (X.2.2.2.2.2.1.1.2 (t - 100) _ ht).2
  cases r3.symm.trans v3
  refine W.aast X.1 X.2.1 hc (fun q h => by cases h) (fun h => by cases h) r1 r2 rfl v4 ⟨?_, ?_⟩ v1 (fun q h => by rw [v2] at h; cases h) v4 (va_asg _ _) rfl rfl hd (fun H1 e1 z1 o1 => g lv st' _ E' kc ks a6 H1 _ ls (xs_stored X S a1 h1 h2 a4 a5 e1 z1 o1 s1 _))
  · exact fun q => xs_in a3 a5 (Or.inl q)
  · rw [arrV_size]
    exact Nat.not_le.mp (fun q => xs_in a3 a5 (Or.inr q))
theorem xb_aastore (X : xs_Cx p s m args c cc nL o Z) (hd : decode cc pc = .ok (.aastore, 1)) (hk : xm_aast st G E (fun st G E => k lv st G E kc ks) = true) (g : xs_good p l e R s m args below meth c Qf nL Z k (pc + 1)) (S : xs_St Z nL lv G E H locs ls) : W p l e R s m args below meth c H locs kc ks Qf (F0 m pc ls (st.map (xs_cv Z))) := by
  unfold xm_aast at hk
  split at hk
  · rename_i q ix j st'
    cases h0 : xm_hget G q with
    | none => rw [h0] at hk; cases hk
    | some y =>
      obtain ⟨c1, ws⟩ := y
      rw [h0] at hk
      dsimp only at hk
      obtain ⟨E', x, h1, s1, hx⟩ := xs_conc hk S.1
      obtain ⟨t, vs, a1, a2, a3, a4, a5, a6⟩ := xs_wr h1
      rw [List.map_cons, List.map_cons, hx]
      unfold xm_ofA at a2
      split at a2
      · rename_i h9
        split at h9 <;> first | cases h9 | skip
        · rw [Bool.and_eq_true] at a2
          have e9 := Nat.eq_of_beq_eq_true a2.1
          subst e9
          exact xs_aast1 X hd S h0 ⟨_, _, rfl⟩ a1 (by decide) (by decide) rfl a3 a4 a5 s1 a6 g
        · rw [Bool.and_eq_true] at a2
          have e9 := Nat.eq_of_beq_eq_true a2.1
          subst e9
          exact xs_aast1 X hd S h0 ⟨_, _, rfl⟩ a1 (by decide) (by decide) rfl a3 a4 a5 s1 a6 g
        · rw [Bool.and_eq_true] at a2
          have e9 := Nat.eq_of_beq_eq_true a2.1
          subst e9
          exact xs_aast1 X hd S h0 ⟨_, _, rfl⟩ a1 (by decide) (by decide) rfl a3 a4 a5 s1 a6 g
        · rw [Bool.and_eq_true] at a2
          have e9 := Nat.eq_of_beq_eq_true a2.1
          subst e9
          exact xs_aast1 X hd S h0 ⟨_, _, rfl⟩ a1 (by decide) (by decide) rfl a3 a4 a5 s1 a6 g
      · cases a2
  · cases hk
theorem xs_tyk {t : Nat} (X : xs_Cx p s m args c cc nL o Z) (h1 : 100 ≤ t) (h2 : t < 108) : ∃ ty, ArrOfT s (Z.2.1 (t - 100)) ty := by
  have h : t = 100 ∨ t = 101 ∨ t = 102 ∨ t = 103 ∨ t = 104 ∨ t = 105 ∨ t = 106 ∨ t = 107 := by omega
  have hK := X.2.2.2.2.2.1.1.2
  rcases h with rfl | rfl | rfl | rfl | rfl | rfl | rfl | rfl
  · exact ⟨_, (hK 0 _ rfl).1⟩
  · exact ⟨_, (hK 1 _ rfl).1⟩
  · exact ⟨_, (hK 2 _ rfl).1⟩
  · exact ⟨_, (hK 3 _ rfl).1⟩
  · exact ⟨_, (hK 4 _ rfl).1⟩
  · exact ⟨_, (hK 5 _ rfl).1⟩
  · exact ⟨_, (hK 6 _ rfl).1⟩
  · exact ⟨_, (hK 7 _ rfl).1⟩
theorem xb_arraylength (X : xs_Cx p s m args c cc nL o Z) (hd : decode cc pc = .ok (.arraylength, 1)) (hk : xm_alen st G (fun st => k lv st G E kc ks) = true) (g : xs_good p l e R s m args below meth c Qf nL Z k (pc + 1)) (S : xs_St Z nL lv G E H locs ls) : W p l e R s m args below meth c H locs kc ks Qf (F0 m pc ls (st.map (xs_cv Z))) := by
  unfold xm_alen at hk
  split at hk
  · rename_i j st'
    cases h0 : xm_hget G j with
    | none => rw [h0] at hk; cases hk
    | some q =>
      obtain ⟨t, vs⟩ := q
      rw [h0] at hk
      dsimp only at hk
      cases h3 : Nat.beq t 300 with
      | true =>
        rw [h3, cond_true] at hk
        have h3 := Nat.eq_of_beq_eq_true h3
        subst h3
        have hj0 : j = 0 := by
          obtain ⟨-, hh⟩ := S.2.1.2.2 j _ h0
          rcases hh with ⟨r', q1, -⟩ | ⟨-, q, -⟩ | ⟨-, q, -⟩ | ⟨-, q⟩
          · have q1 : xm_cls[300]? = some r' := q1
            rw [xs_nocls (by decide)] at q1
            cases q1
          · have q : 300 < 108 := q
            omega
          · exact q
          · have q : 300 < 206 := q
            omega
        subst hj0
        obtain ⟨k1, k2, k3, k4, k5⟩ := X.2.2.2.2.2.1.2.2.2.1
        exact W.alen (n := xs_n Z 6) X.1 X.2.1 (xs_scr S.2.1 h0) k1 k4.symm rfl rfl hd (g lv _ G E kc ks hk H locs ls S)
      | false =>
        rw [h3, cond_false] at hk
        cases h4 : (Nat.ble 100 t && Nat.blt t 108) with
        | false => rw [h4] at hk; cases hk
        | true =>
          rw [h4, cond_true, xl_len] at hk
          rw [Bool.and_eq_true] at h4
          have b1 : 100 ≤ t := Nat.le_of_ble_eq_true h4.1
          have b2 : t < 108 := Nat.le_of_ble_eq_true h4.2
          obtain ⟨-, hc⟩ := xs_arr S.2.1 h0 b1 b2
          obtain ⟨ty, hty⟩ := xs_tyk X b1 b2
          exact W.alen (n := Int32.ofNat vs.length) X.1 X.2.1 hc (hty _ _) (by rw [arrV_size]) rfl rfl hd (g lv _ G E kc ks hk H locs ls S)
  · cases hk
end XE
end
section
/-! one row an instruction: new cells, fields, copies, switches -/
section XF
variable {p : Program} {l : Launch} {e : Env} {R : Room} {s : State} {m : MethodId} {args : Array Value} {below : List Frame} {meth : Method} {c : Code} {Qf : State → Prop} {cc : ByteArray} {nL o : Nat} {Z : xs_Z}
variable {lv : xm_L} {st : List Value} {G : xm_H} {E : xm_R} {kc ks pc mc ms : Nat} {k : xm_K} {H : Heap} {locs : List Loc} {ls : Array Slot}
theorem xs_newa {t : Nat} {kk : List Value → xm_H → xm_R → Nat → Nat → Bool} (h : xm_newa t st G E kc ks mc ms kk = true) (hs : xs_sat Z E) : ∃ w st' E' x, st = w :: st' ∧ xs_cv Z w = .int x ∧ 0 ≤ x.toInt ∧ kc + 1 ≤ mc ∧ ks + x.toInt.toNat ≤ ms ∧ x.toInt.toNat ≤ 65536 ∧ xs_sat Z E' ∧ kk (.ref G.1 :: st') (xm_push G (t, List.replicate x.toInt.toNat (xm_zero t))) E' (kc + 1) (ks + x.toInt.toNat) = true := by
  unfold xm_newa at h
  split at h
  · rename_i w st'
    obtain ⟨E', x, h1, s1, hx⟩ := xs_conc h hs
    cases hc : (decide (0 ≤ x.toInt) && (Nat.ble (kc + 1) mc && (Nat.ble (ks + x.toInt.toNat) ms && Nat.ble x.toInt.toNat 65536))) with
    | false => rw [hc] at h1; cases h1
    | true =>
      rw [hc, cond_true, xl_rep] at h1
      simp only [Bool.and_eq_true, decide_eq_true_eq] at hc
      exact ⟨w, st', E', x, rfl, hx, hc.1, Nat.le_of_ble_eq_true hc.2.1, Nat.le_of_ble_eq_true hc.2.2.1, Nat.le_of_ble_eq_true hc.2.2.2, s1, h1⟩
  · cases h
/-- behind the making of a row -/
theorem xs_pushed (X : xs_Cx p s m args c cc nL o Z) (S : xs_St Z nL lv G E H locs ls) {t n : Nat} {z : Value} (h1 : 100 ≤ t) (h2 : t < 108) (hz : xs_cv Z z = z) {E' : xm_R} (s1 : xs_sat Z E') : xs_St Z nL lv (xm_push G (t, List.replicate n z)) E' (H.push { cls := Z.2.1 (t - 100), slots := Array.replicate n z, vm := .none }) locs ls := by
  refine ⟨s1, S.2.1.push X.2.2.2.2.2.1.2.2.2.2.1 (by simp) (fun q hq => ?_) (Or.inr (Or.inl ⟨h1, h2, ?_⟩)), S.2.2⟩
  · rw [Array.getElem?_push, if_neg (Nat.ne_of_lt hq)]
  · rw [xs_rho_new S.2.1, arrV_new]
    show (H.push (arrV (Z.2.1 (t - 100)) n fun _ => z))[H.size]? = some (arrV (Z.2.1 (t - 100)) (List.replicate n z).length fun k => xs_cv Z ((List.replicate n z).getD k .null))
    rw [List.length_replicate, Array.getElem?_push, if_pos rfl]
    congr 1
    apply xs_arrcongr
    intro i hi
    rw [List.getD_eq_getElem?_getD, List.getElem?_replicate, if_pos hi]
    exact hz.symm
theorem xs_clamp {x : Int32} (h : 0 ≤ x.toInt) : ¬ x < 0 := fun q => by
  have q1 : x.toInt < 0 := Int32.lt_iff_toInt_lt.mp q
  omega
set_option maxRecDepth 20000 in
theorem xb_newarray (X : xs_Cx p s m args c cc nL o Z) {at_ : ArrayType} {t : Nat} (hd : decode cc pc = .ok (.newarray at_, 2)) (ht : t = xm_atyp at_) (h100 : 100 ≤ t) (hR : mc ≤ R.cells ∧ ms ≤ R.slots) (hk : xm_newa t st G E kc ks mc ms (fun st G E kc ks => k lv st G E kc ks) = true) (g : xs_good p l e R s m args below meth c Qf nL Z k (pc + 2)) (S : xs_St Z nL lv G E H locs ls) : W p l e R s m args below meth c H locs kc ks Qf (F0 m pc ls (st.map (xs_cv Z))) := by
  obtain ⟨w, st', E', x, rfl, hx, b1, b2, b3, b4, s1, h1⟩ := xs_newa hk S.1
  have hn : xs_rho Z G.1 = H.size := xs_rho_new S.2.1
  rw [List.map_cons, hx]
  cases at_ with
  | int =>
    subst ht
    refine W.newa X.1 X.2.1 (xs_word X xk_a0) rfl hd rfl (xs_clamp b1) (by show x.toInt.toNat * 4 ≤ _; omega) (by omega) (by show ks + x.toInt.toNat ≤ _; omega) (fun cA kA comp e1 e2 e3 => ?_)
    cases e1.symm.trans (X.2.2.2.2.2.1.1.2 0 _ rfl).2
    have h2 := g lv _ _ E' _ _ h1 _ locs ls (xs_pushed X S (by decide) (by decide) rfl s1)
    rw [List.map_cons, show xs_cv Z (.ref G.1) = .ref H.size from congrArg Value.ref hn] at h2
    exact h2
  | byte =>
    subst ht
    refine W.newa X.1 X.2.1 (xs_word X xk_a1) rfl hd rfl (xs_clamp b1) (by show x.toInt.toNat * 1 ≤ _; omega) (by omega) (by show ks + x.toInt.toNat ≤ _; omega) (fun cA kA comp e1 e2 e3 => ?_)
    cases e1.symm.trans (X.2.2.2.2.2.1.1.2 1 _ rfl).2
    have h2 := g lv _ _ E' _ _ h1 _ locs ls (xs_pushed X S (by decide) (by decide) rfl s1)
    rw [List.map_cons, show xs_cv Z (.ref G.1) = .ref H.size from congrArg Value.ref hn] at h2
    exact h2
  | long =>
    subst ht
    refine W.newa X.1 X.2.1 (xs_word X xk_a2) rfl hd rfl (xs_clamp b1) (by show x.toInt.toNat * 8 ≤ _; omega) (by omega) (by show ks + x.toInt.toNat ≤ _; omega) (fun cA kA comp e1 e2 e3 => ?_)
    cases e1.symm.trans (X.2.2.2.2.2.1.1.2 2 _ rfl).2
    have h2 := g lv _ _ E' _ _ h1 _ locs ls (xs_pushed X S (by decide) (by decide) rfl s1)
    rw [List.map_cons, show xs_cv Z (.ref G.1) = .ref H.size from congrArg Value.ref hn] at h2
    exact h2
  | boolean =>
    subst ht
    refine W.newa X.1 X.2.1 (xs_word X xk_a3) rfl hd rfl (xs_clamp b1) (by show x.toInt.toNat * 1 ≤ _; omega) (by omega) (by show ks + x.toInt.toNat ≤ _; omega) (fun cA kA comp e1 e2 e3 => ?_)
    cases e1.symm.trans (X.2.2.2.2.2.1.1.2 3 _ rfl).2
    have h2 := g lv _ _ E' _ _ h1 _ locs ls (xs_pushed X S (by decide) (by decide) rfl s1)
    rw [List.map_cons, show xs_cv Z (.ref G.1) = .ref H.size from congrArg Value.ref hn] at h2
    exact h2
  | char => subst ht; exact absurd h100 (by decide)
  | float => subst ht; exact absurd h100 (by decide)
  | double => subst ht; exact absurd h100 (by decide)
  | short => subst ht; exact absurd h100 (by decide)
theorem xs_anew1 (X : xs_Cx p s m args c cc nL o Z) {i t c1 : Nat} {C : String} (hd : decode cc pc = .ok (.anewarray i, 3)) (hcl : xm_at2 (xm_cl o) (i, c1) = true) (hC : ∃ T N, xm_cls[c1]? = some (C, T, N)) (h1 : 100 ≤ t) (h2 : t < 108) (hz : xm_zero t = .null) (ht : (xs_tys Z)[t - 100]? = some (Z.2.1 (t - 100), .object C)) (hC4 : C ∈ ["StairNews$Rule", "StairNews$Folk", "StairNews$Lore", "StairNews$Scene"]) (hR : mc ≤ R.cells ∧ ms ≤ R.slots) (hk : xm_newa t st G E kc ks mc ms (fun st G E kc ks => k lv st G E kc ks) = true) (g : xs_good p l e R s m args below meth c Qf nL Z k (pc + 3)) (S : xs_St Z nL lv G E H locs ls) : W p l e R s m args below meth c H locs kc ks Qf (F0 m pc ls (st.map (xs_cv Z))) := by
  obtain ⟨w, st', E', x, rfl, hx, b1, b2, b3, b4, s1, h3⟩ := xs_newa hk S.1
  have hn : xs_rho Z G.1 = H.size := xs_rho_new S.2.1
  obtain ⟨T, N, hC⟩ := hC
  obtain ⟨r, hr, e1, e2⟩ := xs_at2 hcl
  have h4 := List.all_eq_true.mp (xk_cl o X.2.2.2.2.2.2) r hr
  unfold xm_clok at h4
  rw [e2, hC, e1] at h4
  rw [List.map_cons, hx]
  refine W.anew X.1 X.2.1 X.2.2.2.1 (xs_word X h4) (va_AO.use (X.2.2.2.2.2.1.2.2.2.2.2 C hC4)) rfl hd rfl (xs_clamp b1) (by show x.toInt.toNat * 4 ≤ _; omega) (by omega) (by show ks + x.toInt.toNat ≤ _; omega) (fun cA kA comp f1 f2 f3 f4 => ?_)
  obtain ⟨kA', comp', r1, r2, r3, r4⟩ := (X.2.2.2.2.2.1.1.2 (t - 100) _ ht).2
  cases f1.symm.trans r4
  rw [hz] at h3
  have h5 := g lv _ _ E' _ _ h3 _ locs ls (xs_pushed X S h1 h2 rfl s1)
  rw [List.map_cons, show xs_cv Z (.ref G.1) = .ref H.size from congrArg Value.ref hn] at h5
  exact h5
theorem xb_anewarray (X : xs_Cx p s m args c cc nL o Z) {i t : Nat} (hd : decode cc pc = .ok (.anewarray i, 3)) (hcl : (match xm_ofA t with
    | some c => xm_at2 (xm_cl o) (i, c)
    | none => false) = true) (hR : mc ≤ R.cells ∧ ms ≤ R.slots) (hk : xm_newa t st G E kc ks mc ms (fun st G E kc ks => k lv st G E kc ks) = true) (g : xs_good p l e R s m args below meth c Qf nL Z k (pc + 3)) (S : xs_St Z nL lv G E H locs ls) : W p l e R s m args below meth c H locs kc ks Qf (F0 m pc ls (st.map (xs_cv Z))) := by
  split at hcl
  · rename_i c1 h9
    unfold xm_ofA at h9
    split at h9 <;> first | cases h9 | skip
    · exact xs_anew1 X hd hcl ⟨_, _, rfl⟩ (by decide) (by decide) rfl rfl (by decide) hR hk g S
    · exact xs_anew1 X hd hcl ⟨_, _, rfl⟩ (by decide) (by decide) rfl rfl (by decide) hR hk g S
    · exact xs_anew1 X hd hcl ⟨_, _, rfl⟩ (by decide) (by decide) rfl rfl (by decide) hR hk g S
    · exact xs_anew1 X hd hcl ⟨_, _, rfl⟩ (by decide) (by decide) rfl rfl (by decide) hR hk g S
  · cases hcl
theorem xs_tok {a : Nat} {r : vw_C} (hr : xm_cls[a]? = some r) : ∃ f : Nat × Nat × List Nat, xm_w f.1 (.instantiable r.1 r.2.2) = true ∧ xm_w f.2.1 (.initialized r.1) = true ∧ (∀ w ∈ u_ws r.1 r.2.1 r.2.2, w ∈ xm_tb) ∧ (∀ k, k < r.2.2 → parseFieldDescriptor (r.2.1 k).2.2.1 = some (xm_ty a k)) ∧ (∀ k, k < r.2.2 → (xm_def a)[k]? = some (defaultValue (xm_ty a k))) ∧ (∀ x, x < r.2.2 → ∀ y, y < r.2.2 → x ≠ y → (r.2.1 x).2.1 ≠ (r.2.1 y).2.1) ∧ (xm_def a).length = r.2.2 ∧ ∀ v ∈ xm_def a, xm_pl v = true := by
  have h12 : a < 12 := (List.getElem?_eq_some_iff.mp hr).1
  have h := xk_t a h12
  unfold xm_tok at h
  rw [hr] at h
  split at h
  · rename_i r' f h8 h9
    cases h8
    simp only [Bool.and_eq_true] at h
    obtain ⟨a1, a2, a3, a4, a5, a6⟩ := h
    refine ⟨f, a1, a2, fun w hw => ?_, fun k hk => ?_, fun k hk => ?_, fun x hx y hy hne => ?_, Nat.eq_of_beq_eq_true a5, List.all_eq_true.mp a6⟩
    · obtain ⟨k, hk, rfl⟩ := List.mem_map.mp hw
      exact xk_w (List.all_eq_true.mp a3 k hk)
    · have h7 := List.all_eq_true.mp a4 k (List.mem_range.mpr hk)
      simp only [Bool.and_eq_true, decide_eq_true_eq] at h7
      exact h7.1
    · have h7 := List.all_eq_true.mp a4 k (List.mem_range.mpr hk)
      simp only [Bool.and_eq_true, decide_eq_true_eq] at h7
      exact h7.2.1
    · have h7 := List.all_eq_true.mp a4 x (List.mem_range.mpr hx)
      simp only [Bool.and_eq_true, decide_eq_true_eq] at h7
      have h8 := List.all_eq_true.mp h7.2.2 y (List.mem_range.mpr hy)
      rw [Bool.or_eq_true] at h8
      rcases h8 with q | q
      · exact absurd (Nat.eq_of_beq_eq_true q) hne
      · simpa using q
  · cases h
theorem xs_pl {v : Value} (h : xm_pl v = true) : xs_cv Z v = v := by cases v <;> first | rfl | cases h
theorem xb_new (X : xs_Cx p s m args c cc nL o Z) {i a : Nat} {r : vw_C} (hd : decode cc pc = .ok (.new i, 3)) (hcl : xm_at2 (xm_cl o) (i, a) = true) (hr : xm_cls[a]? = some r) (hR : mc ≤ R.cells ∧ ms ≤ R.slots) (h1 : kc + 1 ≤ mc) (h2 : ks + r.2.2 ≤ ms) (hk : k lv (.ref G.1 :: st) (xm_push G (a, xm_def a)) E (kc + 1) (ks + r.2.2) = true) (g : xs_good p l e R s m args below meth c Qf nL Z k (pc + 3)) (S : xs_St Z nL lv G E H locs ls) : W p l e R s m args below meth c H locs kc ks Qf (F0 m pc ls (st.map (xs_cv Z))) := by
  have hn : xs_rho Z G.1 = H.size := xs_rho_new S.2.1
  obtain ⟨q, hq, e1, e2⟩ := xs_at2 hcl
  have h4 := List.all_eq_true.mp (xk_cl o X.2.2.2.2.2.2) q hq
  unfold xm_clok at h4
  rw [e2, hr, e1] at h4
  obtain ⟨f, t1, t2, t3, t4, t5, t6, t7, t8⟩ := xs_tok hr
  have hKn := X.2.2.2.2.2.1.1.1 a r hr
  refine W.newcK X.1 X.2.1 X.2.2.2.1 (xs_word X h4) (xs_word X t1) (xs_word X t2) rfl hd (by omega) (by omega) hKn.2.1 rfl (fun H1 kC hkC e1 z1 o1 => ?_)
  have h5 := g lv _ _ E _ _ hk H1 locs ls ⟨S.1, S.2.1.push X.2.2.2.2.2.1.2.2.2.2.1 z1 (fun q hq => o1 q hq) (Or.inl ⟨r, hr, t7, ?_⟩), S.2.2⟩
  · rw [List.map_cons, show xs_cv Z (.ref G.1) = .ref H.size from congrArg Value.ref hn] at h5
    exact h5
  · rw [hn]
    refine (u_born (xm_ty a) X.2.2.2.2.1 t3 hKn hkC e1 t4).to (fun j hj => ?_)
    have h6 := t5 j hj
    show defaultValue (xm_ty a j) = xs_cv Z ((xm_def a).getD j .null)
    rw [List.getD_eq_getElem?_getD, h6]
    exact (xs_pl (t8 _ (List.mem_of_getElem? h6))).symm
theorem xs_fl (X : xs_Cx p s m args c cc nL o Z) {i a b : Nat} (h : xm_at3 (xm_fl o) (i, a, b) = true) : ∃ r, xm_cls[a]? = some r ∧ b < r.2.2 ∧ (r.2.1 b).1 = r.1 ∧ (Jvm.Cond.fieldLink (xm_own o) i r.1 (r.2.1 b).2.1 (r.2.1 b).2.2.1).before args s = true := by
  obtain ⟨q, hq, e1, e2, e3⟩ := xs_at3 h
  have h4 := List.all_eq_true.mp (xk_fl o X.2.2.2.2.2.2) q hq
  unfold xm_flok at h4
  rw [e1, e2, e3] at h4
  split at h4
  · rename_i r hr
    simp only [Bool.and_eq_true, decide_eq_true_eq] at h4
    exact ⟨r, hr, Nat.le_of_ble_eq_true h4.1, h4.2.1, xs_word X h4.2.2⟩
  · cases h4
theorem xb_getfield (X : xs_Cx p s m args c cc nL o Z) {i a b : Nat} (hd : decode cc pc = .ok (.getfield i, 3)) (hfl : xm_at3 (xm_fl o) (i, a, b) = true) (hk : xm_getf a b st G (fun st => k lv st G E kc ks) = true) (g : xs_good p l e R s m args below meth c Qf nL Z k (pc + 3)) (S : xs_St Z nL lv G E H locs ls) : W p l e R s m args below meth c H locs kc ks Qf (F0 m pc ls (st.map (xs_cv Z))) := by
  unfold xm_getf at hk
  split at hk
  · rename_i j st'
    cases h0 : xm_hget G j with
    | none => rw [h0] at hk; cases hk
    | some q =>
      obtain ⟨t, vs⟩ := q
      rw [h0] at hk
      dsimp only at hk
      cases h3 : Nat.beq t a with
      | false => rw [h3] at hk; cases hk
      | true =>
        rw [h3, cond_true, xl_nth] at hk
        have h3 := Nat.eq_of_beq_eq_true h3
        subst h3
        cases hw : vs[b]? with
        | none => rw [hw] at hk; cases hk
        | some w =>
          rw [hw] at hk
          dsimp only at hk
          obtain ⟨r, hr, hb, hr1, hlink⟩ := xs_fl X hfl
          obtain ⟨f, t1, t2, t3, t4, t5, t6, t7, t8⟩ := xs_tok hr
          obtain ⟨-, -, cell, q1, q2, q3, q4⟩ := xs_obj S.2.1 h0 hr
          obtain ⟨hS, hfc, kC, hkC, hkind⟩ := X.2.2.2.2.2.1.1.1 t r hr
          obtain ⟨cf, kf, fi, fd, hi, hsl⟩ := hS b hb
          have hst := (u_facts hfc hkC (u_lays X.2.2.2.2.1 t3 hb) hi).1
          rw [hr1] at hi
          refine W.getf X.1 X.2.1 X.2.2.2.1 hlink hi hst q1 (by rw [q3]; exact fun h => by cases h) (v := xs_cv Z w) ?_ rfl rfl hd (g lv _ G E kc ks hk H locs ls S)
          rw [hsl, q4 b hb]
          show some (xs_cv Z (vs.getD b .null)) = _
          rw [List.getD_eq_getElem?_getD, hw]
          rfl
  · cases hk
theorem xs_fit {ty : FieldType} {v : Value} (h : xm_fit ty v = true) : narrow ty (xs_cv Z v) = xs_cv Z v ∧ fits ty (xs_cv Z v) = true := by
  cases ty with
  | int =>
    obtain ⟨x, hx⟩ := xs_I (Z := Z) h
    rw [hx]
    exact ⟨rfl, rfl⟩
  | boolean =>
    cases v with
    | int x =>
      unfold xm_fit at h
      dsimp only at h
      rw [Bool.or_eq_true, decide_eq_true_eq, decide_eq_true_eq] at h
      rcases h with rfl | rfl
      · exact ⟨rfl, rfl⟩
      · exact ⟨rfl, rfl⟩
    | _ => cases h
  | long =>
    obtain ⟨x, hx⟩ := xs_L (Z := Z) h
    rw [hx]
    exact ⟨rfl, rfl⟩
  | object C =>
    rcases xs_A (Z := Z) h with ⟨-, hx⟩ | ⟨j, -, hx⟩
    · rw [hx]
      exact ⟨rfl, rfl⟩
    · rw [hx]
      exact ⟨rfl, rfl⟩
  | array C =>
    rcases xs_A (Z := Z) h with ⟨-, hx⟩ | ⟨j, -, hx⟩
    · rw [hx]
      exact ⟨rfl, rfl⟩
    · rw [hx]
      exact ⟨rfl, rfl⟩
  | _ => cases h
theorem xs_updV {vs : List Value} {b : Nat} {w : Value} (hb : b < vs.length) (j : Nat) : updV (fun k => xs_cv Z (vs.getD k .null)) b (xs_cv Z w) j = xs_cv Z ((vs.set b w).getD j .null) := by
  show (if j = b then xs_cv Z w else xs_cv Z (vs.getD j .null)) = _
  by_cases e : j = b
  · subst e
    rw [if_pos rfl, List.getD_eq_getElem?_getD, List.getElem?_set_self hb]
    rfl
  · rw [if_neg e, List.getD_eq_getElem?_getD, List.getD_eq_getElem?_getD, List.getElem?_set_ne (fun q => e q.symm)]
theorem xb_putfield (X : xs_Cx p s m args c cc nL o Z) {i a b j t : Nat} {vs : List Value} {w : Value} (hd : decode cc pc = .ok (.putfield i, 3)) (hfl : xm_at3 (xm_fl o) (i, a, b) = true) {ini : Bool} (hini : ini = true → meth.name = "<init>") (hfin : (!(xm_fin a b) || (ini && xm_mine a o)) = true) (h0 : xm_hget G j = some (t, vs)) (hta : t = a) (hj : 7 ≤ j) (hfit : xm_fit (xm_ty t b) w = true) (hb : b < vs.length) (hk : k lv st (xm_hput G j (t, vs.set b w)) E kc ks = true) (g : xs_good p l e R s m args below meth c Qf nL Z k (pc + 3)) (S : xs_St Z nL lv G E H locs ls) : W p l e R s m args below meth c H locs kc ks Qf (F0 m pc ls ((w :: .ref j :: st).map (xs_cv Z))) := by
  subst hta
  obtain ⟨r, hr, hbN, hr1, hlink⟩ := xs_fl X hfl
  obtain ⟨f, t1, t2, t3, t4, t5, t6, t7, t8⟩ := xs_tok hr
  obtain ⟨hlt, hvl, cell, q1, q2, q3, q4⟩ := xs_obj S.2.1 h0 hr
  have hap : ∀ x y, x < r.2.2 → y < r.2.2 → x ≠ y → (Z.1.2 t) x ≠ (Z.1.2 t) y := va_apart (own := xm_own o) X.2.2.2.2.1 t3 (xm_ty t) t4 t6 X.2.2.2.2.2.1.1 hr
  obtain ⟨hS, hfc, kC, hkC, hkind⟩ := X.2.2.2.2.2.1.1.1 t r hr
  obtain ⟨cf, kf, fi, fd, hi, hsl⟩ := hS b hbN
  have hlay := X.2.2.2.2.1 _ (t3 _ (u_in_lay hbN))
  unfold u_lay at hlay
  have hst := (u_facts hfc hkC (u_lays X.2.2.2.2.1 t3 hbN) hi).1
  obtain ⟨hn, hft⟩ := xs_fit (Z := Z) hfit
  have fin : ∀ H1 : Heap, H1[xs_rho Z j]? = some (cell.setSlot fd.slot (xs_cv Z w)) → H1.size = H.size → (∀ q, q ≠ xs_rho Z j → H1[q]? = H[q]?) → W p l e R s m args below meth c H1 (locs ++ [⟨xs_rho Z j, fd.slot⟩]) kc ks Qf (F0 m (pc + 3) ls (st.map (xs_cv Z))) := by
    intro H1 e1 z1 o1
    refine g lv st _ E kc ks hk H1 _ ls ⟨S.1, S.2.1.put X.2.2.2.2.2.1.2.2.2.2.1 hj hlt z1 o1 (Or.inl ⟨r, hr, by rw [← hvl]; exact List.length_set, ?_⟩), S.2.2.1, fun q hq => ?_⟩
    · rw [hsl] at e1
      exact t_OB.to ⟨_, e1, q2, q3, t_set q4 hap hbN (xs_cv Z w)⟩ (fun k _ => xs_updV hb k)
    · rcases List.mem_append.mp hq with h | h
      · exact S.2.2.2 q h
      · rw [List.mem_singleton.mp h]
        exact xs_lo hj
  cases hf : (r.2.1 b).2.2.2 with
  | false =>
    rw [if_neg (by rw [hf]; decide)] at hlay
    have h6 := u_store hfc hkC hkind hlay hi (t4 b hbN) hn hft
    rw [hr1] at hi
    exact W.putK X.1 X.2.1 (f := fd) ⟨X.2.2.2.1, hlink, ⟨_, _, _, hi⟩, hst⟩ (by rw [q2]; exact h6) q1 q3 (by rw [hsl]; exact k2_hasslot (q4 b hbN)) rfl rfl hd fin
  | true =>
    rw [if_pos hf] at hlay
    have hfin2 : xm_fin t b = true := by
      unfold xm_fin
      rw [hr]
      exact hf
    rw [hfin2] at hfin
    have hfin : (ini && xm_mine t o) = true := hfin
    rw [Bool.and_eq_true] at hfin
    have hmine : r.1 = xm_own o := by
      have h9 := hfin.2
      unfold xm_mine at h9
      rw [hr] at h9
      exact of_decide_eq_true h9
    have hcf : m.cls = cf := by
      obtain ⟨_, _, c', _, _, _, -, -, hf', -, -, -, hown2, -⟩ := Cond.laysFinal_spec hlay
      have e1 : c' = cf := by have := hi.symm.trans hf'; simp at this; exact this.1.symm
      rw [hr1, hmine] at hown2
      rw [← e1]; exact Option.some.inj (X.2.2.2.1.symm.trans hown2)
    have h6 := u_fits hfc hkC hkind (Or.inr hlay) hi (t4 b hbN) hn hft
    rw [hr1] at hi
    exact W.putFinK X.1 X.2.1 X.2.2.2.1 hlink hi hst hcf (hini hfin.1) (by rw [q2]; exact h6) q1 q3 (by rw [hsl]; exact k2_hasslot (q4 b hbN)) rfl rfl hd fin
end XF
end
section
/-! one row an instruction: arraycopy, switches -/
section XG
variable {p : Program} {l : Launch} {e : Env} {R : Room} {s : State} {m : MethodId} {args : Array Value} {below : List Frame} {meth : Method} {c : Code} {Qf : State → Prop} {cc : ByteArray} {nL o : Nat} {Z : xs_Z}
variable {lv : xm_L} {st : List Value} {G : xm_H} {E : xm_R} {kc ks pc mc ms : Nat} {k : xm_K} {H : Heap} {locs : List Loc} {ls : Array Slot}
theorem xs_copylen (sp dp : Nat) (f g : List Value) : ∀ n, (xm_copy sp dp n f g).length = g.length
  | 0 => rfl
  | n + 1 => by
    show (match xm_nth f (sp + n) with
      | some w => xm_put w (xm_copy sp dp n f g) (dp + n)
      | none => xm_copy sp dp n f g).length = _
    split
    · rw [xl_put, List.length_set]
      exact xs_copylen sp dp f g n
    · exact xs_copylen sp dp f g n
theorem xs_copy (sp dp : Nat) (f g : List Value) : ∀ n, sp + n ≤ f.length → dp + n ≤ g.length → ∀ i : Nat, (xm_copy sp dp n f g).getD i .null = if dp ≤ i ∧ i < dp + n then f.getD (sp + (i - dp)) .null else g.getD i .null
  | 0, _, _, i => by
    rw [if_neg (by omega)]
    rfl
  | n + 1, h1, h2, i => by
    have ih := xs_copy sp dp f g n (by omega) (by omega)
    have hl := xs_copylen sp dp f g n
    show (match xm_nth f (sp + n) with
      | some w => xm_put w (xm_copy sp dp n f g) (dp + n)
      | none => xm_copy sp dp n f g).getD i .null = _
    rw [xl_nth, List.getElem?_eq_getElem (show sp + n < f.length by omega)]
    dsimp only
    rw [xl_put]
    by_cases e : i = dp + n
    · subst e
      rw [List.getD_eq_getElem?_getD, List.getElem?_set_self (by omega), if_pos (by omega), show sp + (dp + n - dp) = sp + n by omega, List.getD_eq_getElem?_getD, List.getElem?_eq_getElem (show sp + n < f.length by omega)]
    · rw [List.getD_eq_getElem?_getD, List.getElem?_set_ne (fun q => e q.symm), ← List.getD_eq_getElem?_getD, ih i]
      by_cases e2 : dp ≤ i ∧ i < dp + n
      · rw [if_pos e2, if_pos (by omega)]
      · rw [if_neg e2, if_neg (by omega)]
theorem xs_allI : ∀ {l : List Value}, xm_allI l = true → ∀ v ∈ l, xm_isI v = true
  | [], _, v, h => by cases h
  | a :: l, h, v, hv => by
    have h1 : (xm_isI a && xm_allI l) = true := h
    rw [Bool.and_eq_true] at h1
    rcases List.mem_cons.mp hv with rfl | hv
    · exact h1.1
    · exact xs_allI h1.2 v hv
theorem xs_nn {z : Int32} (h : 0 ≤ z.toInt) : z.toInt = (z.toNatClampNeg : Int) := by
  show z.toInt = ((z.toInt.toNat : Nat) : Int)
  omega
theorem xb_arraycopy (X : xs_Cx p s m args c cc nL o Z) {i : Nat} (hd : decode cc pc = .ok (.invokestatic i, 3)) (hml : xm_at3 (xm_ml o) (i, 1001, 0) = true) (hR : 1 ≤ R.frames ∧ 64 ≤ R.locals) (hk : xm_acopy st G (fun st G => k lv st G E kc ks) = true) (g : xs_good p l e R s m args below meth c Qf nL Z k (pc + 3)) (S : xs_St Z nL lv G E H locs ls) : W p l e R s m args below meth c H locs kc ks Qf (F0 m pc ls (st.map (xs_cv Z))) := by
  unfold xm_acopy at hk
  split at hk
  · rename_i n dp j sp js st'
    split at hk
    · rename_i t vs t1 ws g0 g1
      cases hc : (Nat.beq t 100 && (Nat.beq t1 100 && (Nat.ble 7 j && (!(Nat.beq js j) && (Nat.ble (xm_cats st') 8 && (xm_allI vs && (decide (0 ≤ n.toInt) && (decide (0 ≤ dp.toInt) && (decide (0 ≤ sp.toInt) && (Nat.ble (sp.toInt.toNat + n.toInt.toNat) (xm_len vs) && Nat.ble (dp.toInt.toNat + n.toInt.toNat) (xm_len ws))))))))))) with
      | false => rw [hc] at hk; cases hk
      | true =>
        rw [hc, cond_true] at hk
        simp only [Bool.and_eq_true, decide_eq_true_eq] at hc
        obtain ⟨c1, c2, c3, c4, c5, cI, c6, c7, c8, c9, c10⟩ := hc
        have c1 := Nat.eq_of_beq_eq_true c1
        have c2 := Nat.eq_of_beq_eq_true c2
        have c3 : 7 ≤ j := Nat.le_of_ble_eq_true c3
        have c5 : xm_cats st' ≤ 8 := Nat.le_of_ble_eq_true c5
        have c9 : sp.toInt.toNat + n.toInt.toNat ≤ vs.length := by rw [← xl_len]; exact Nat.le_of_ble_eq_true c9
        have c10 : dp.toInt.toNat + n.toInt.toNat ≤ ws.length := by rw [← xl_len]; exact Nat.le_of_ble_eq_true c10
        subst c1 c2
        obtain ⟨q, hq, e1, e2, e3⟩ := xs_at3 hml
        have h4 := List.all_eq_true.mp (xk_ml o X.2.2.2.2.2.2) q hq
        unfold xm_mlok at h4
        rw [e1, e2] at h4
        have h4 : xm_w q.2.2.2 (.methodLink (xm_own o) i arraycopyName) = true := h4
        obtain ⟨hl0, hc0⟩ := xs_arr S.2.1 g0 (by decide) (by decide)
        obtain ⟨hl1, hc1⟩ := xs_arr S.2.1 g1 (by decide) (by decide)
        have hK := (X.2.2.2.2.2.1.1.2 0 _ rfl).1
        obtain ⟨-, k0, hk0, cm0, hkk0⟩ := hK vs.length (fun k => xs_cv Z (vs.getD k .null))
        obtain ⟨-, k1, hk1, cm1, hkk1⟩ := hK ws.length (fun k => xs_cv Z (ws.getD k .null))
        intro T hT XX
        have hall := xs_allI cI
        obtain ⟨vm', X', step⟩ := XX.arraycopy X.1 X.2.2.2.1 (xs_word X h4) (xs_word X xk_a9) (xs_word X xk_a10) (xs_word X xk_a11) (src := xs_rho Z js) (dst := xs_rho Z j) (cs := arrV (Z.2.1 0) vs.length (fun k => xs_cv Z (vs.getD k .null))) (cd := arrV (Z.2.1 0) ws.length (fun k => xs_cv Z (ws.getD k .null))) (srcPos := sp) (destPos := dp) (n := n) (by rw [hT]; exact hc0) (by rw [hT]; exact hc1)
          (fun _ h => by cases h) (fun _ h => by cases h) (fun h => by cases h) (fun h => by cases h) hk0 hk1 hkk0 hkk1 (by simp [refKind]) (xs_clamp c8) (xs_clamp c7) (xs_clamp c6)
          (by rw [xs_nn c8, xs_nn c6, arrV_size]; show ¬ ((sp.toInt.toNat : Nat) : Int) + ((n.toInt.toNat : Nat) : Int) > _; omega)
          (by rw [xs_nn c7, xs_nn c6, arrV_size]; show ¬ ((dp.toInt.toNat : Nat) : Int) + ((n.toInt.toNat : Nat) : Int) > _; omega)
          (fun vm₁ _ i hi => by
            have hi : i < n.toInt.toNat := hi
            have hlt : sp.toInt.toNat + i < vs.length := by omega
            have e : (arrV (Z.2.1 0) vs.length (fun k => xs_cv Z (vs.getD k .null))).slots.getD (sp.toNatClampNeg + i) .null = xs_cv Z vs[sp.toInt.toNat + i] := by
              show (arrV (Z.2.1 0) vs.length (fun k => xs_cv Z (vs.getD k .null))).slots.getD (sp.toInt.toNat + i) .null = _
              rw [Array.getD_eq_getD_getElem?, arrV_read _ _ hlt, List.getD_eq_getElem?_getD, List.getElem?_eq_getElem hlt]
              rfl
            obtain ⟨z, hz⟩ := xs_I (Z := Z) (hall _ (List.getElem_mem hlt))
            rw [e, hz]
            exact ⟨rfl, trivial⟩)
          (g := F0 m pc ls (.int n :: .int dp :: .ref (xs_rho Z j) :: .int sp :: .ref (xs_rho Z js) :: st'.map (xs_cv Z))) rfl (by rw [X.2.2.1]; exact S.2.2.1.1) (rest := st'.map (xs_cv Z)) rfl (by rw [X.2.1]; exact hd) hR.1 (by rw [xs_cats]; show 2 * 0 + xm_cats st' + (7 + 11) ≤ R.locals; omega)
        have e1 : copied (arrV (Z.2.1 0) vs.length (fun k => xs_cv Z (vs.getD k .null))) (arrV (Z.2.1 0) ws.length (fun k => xs_cv Z (ws.getD k .null))) sp dp n = arrV (Z.2.1 0) (xm_copy sp.toInt.toNat dp.toInt.toNat n.toInt.toNat vs ws).length (fun k => xs_cv Z ((xm_copy sp.toInt.toNat dp.toInt.toNat n.toInt.toNat vs ws).getD k .null)) := by
          have e2 := va_copied (fun z : Value => z) (Z.2.1 0) (Z.2.1 0) (n1 := ws.length) (sp := sp.toInt.toNat) (dp := dp.toInt.toNat) (n := n.toInt.toNat) (fun k => xs_cv Z (vs.getD k .null)) (fun k => xs_cv Z (ws.getD k .null)) c9
          refine Eq.trans e2 ?_
          rw [xs_copylen]
          apply xs_arrcongr
          intro i hi
          rw [xs_copy _ _ _ _ _ c9 c10]
          unfold va_cpy
          split <;> rfl
        rw [e1] at X' step
        have hl : xs_rho Z j < H.size := (Array.getElem?_eq_some_iff.mp hc1).1
        obtain ⟨t, a1, b1⟩ := g lv st' _ E kc ks hk (H.setIfInBounds (xs_rho Z j) (arrV (Z.2.1 0) (xm_copy sp.toInt.toNat dp.toInt.toNat n.toInt.toNat vs ws).length (fun k => xs_cv Z ((xm_copy sp.toInt.toNat dp.toInt.toNat n.toInt.toNat vs ws).getD k .null)))) _ ls ⟨S.1, S.2.1.put X.2.2.2.2.2.1.2.2.2.2.1 c3 hl1 (by simp) (fun q hq => by simp [Array.getElem?_setIfInBounds, Ne.symm hq]) (Or.inr (Or.inl ⟨Nat.le_refl 100, show 100 < 108 by decide, by simp [Array.getElem?_setIfInBounds, hl]⟩)), S.2.2.1, fun q hq => by
            rcases List.mem_append.mp hq with h | h
            · exact S.2.2.2 q h
            · obtain ⟨z, -, hz⟩ := List.mem_map.mp h
              rw [← hz]
              exact xs_lo c3⟩ _ (by rw [← hT]; rfl) X'
        exact ⟨t, step t a1, b1⟩
    · cases hk
  · cases hk
theorem xs_tg {full : List xm_E} {a : Nat} {off : Int} (h : xm_tg full a pc off = true) : ∃ e rest, xm_drop a full = e :: rest ∧ (pc : Int) + off = (e.1 : Int) := by
  unfold xm_tg at h
  split at h
  · rename_i e rest he
    exact ⟨e, rest, he, of_decide_eq_true h⟩
  · cases h
theorem xs_tgs {full : List xm_E} : ∀ {offs : List Int} {ts : List Nat}, xm_tgs full pc offs ts = true → offs.length = ts.length ∧ ∀ (i t : Nat), ts[i]? = some t → ∃ off, offs[i]? = some off ∧ xm_tg full t pc off = true
  | [], [], _ => ⟨rfl, fun i t h => by simp at h⟩
  | [], _ :: _, h => by cases h
  | _ :: _, [], h => by cases h
  | off :: offs, t :: ts, h => by
    have h1 : (xm_tg full t pc off && xm_tgs full pc offs ts) = true := h
    rw [Bool.and_eq_true] at h1
    obtain ⟨h2, h3⟩ := xs_tgs h1.2
    refine ⟨by simp [h2], fun i t' hi => ?_⟩
    cases i with
    | zero =>
      rw [List.getElem?_cons_zero] at hi
      cases hi
      exact ⟨off, rfl, h1.1⟩
    | succ i =>
      rw [List.getElem?_cons_succ] at hi
      obtain ⟨off', q1, q2⟩ := h3 i t' hi
      exact ⟨off', by rw [List.getElem?_cons_succ]; exact q1, q2⟩
theorem xs_tsw {j : Nat} {lo0 hi0 : Int} {kk : xm_R → Nat → Bool} : ∀ {ts : List Nat} {c0 : Int}, xm_tsw j lo0 hi0 E kk ts c0 = true → ∀ (i t : Nat), ts[i]? = some t → lo0 ≤ c0 + i → c0 + i ≤ hi0 → kk (xm_put (c0 + i, c0 + i) E j) t = true
  | [], c0, _, i, t, h, _, _ => by simp at h
  | t0 :: ts, c0, h, i, t, hi, b1, b2 => by
    have h1 : ((bif decide (lo0 ≤ c0) && decide (c0 ≤ hi0) then kk (xm_put (c0, c0) E j) t0 else true) && xm_tsw j lo0 hi0 E kk ts (c0 + 1)) = true := h
    rw [Bool.and_eq_true] at h1
    cases i with
    | zero =>
      rw [List.getElem?_cons_zero] at hi
      cases hi
      have e : c0 + ((0 : Nat) : Int) = c0 := by omega
      rw [e] at b1 b2 ⊢
      have h2 := h1.1
      rw [decide_eq_true b1, decide_eq_true b2] at h2
      exact h2
    | succ i =>
      rw [List.getElem?_cons_succ] at hi
      have h2 := xs_tsw h1.2 i t hi (by omega) (by omega)
      have e : c0 + 1 + (i : Int) = c0 + ((i + 1 : Nat) : Int) := by omega
      rw [e] at h2
      exact h2
/-- which way a table goes: the default, or a place of it -/
theorem xs_table {lo : Int} {a : Nat} {ts : List Nat} {w : Value} {kk : xm_R → Nat → Bool} (h : xm_table lo a ts w E kk = true) (hs : xs_sat Z E) : ∃ x E', xs_cv Z w = .int x ∧ xs_sat Z E' ∧ (((x.toInt < lo ∨ lo + (ts.length : Int) ≤ x.toInt) ∧ kk E' a = true) ∨ (lo ≤ x.toInt ∧ x.toInt < lo + (ts.length : Int) ∧ ∃ t, ts[(x.toInt - lo).toNat]? = some t ∧ kk E' t = true)) := by
  cases w with
  | int x =>
    have h : (bif decide (x.toInt < lo) || decide (lo + Int.ofNat (xm_len ts) ≤ x.toInt) then kk E a else (match xm_nth ts (x.toInt - lo).toNat with
      | some t => kk E t
      | none => false)) = true := h
    rw [xl_len, xl_nth] at h
    refine ⟨x, E, rfl, hs, ?_⟩
    cases hc : (decide (x.toInt < lo) || decide (lo + Int.ofNat ts.length ≤ x.toInt)) with
    | true =>
      rw [hc] at h
      rw [Bool.or_eq_true, decide_eq_true_eq, decide_eq_true_eq] at hc
      exact Or.inl ⟨hc, h⟩
    | false =>
      rw [hc] at h
      rw [Bool.or_eq_false_iff, decide_eq_false_iff_not, decide_eq_false_iff_not] at hc
      have q2 : ¬ lo + (ts.length : Int) ≤ x.toInt := hc.2
      refine Or.inr ⟨by omega, by omega, ?_⟩
      cases ht : ts[(x.toInt - lo).toNat]? with
      | none => rw [ht] at h; cases h
      | some t =>
        rw [ht] at h
        exact ⟨t, rfl, h⟩
  | retAddr j =>
    have h : (match xm_nth E j with
      | some (l, h) => and (bif decide (l < lo) then kk (xm_put (l, min h (lo - 1)) E j) a else true) (and (bif decide (lo + Int.ofNat (xm_len ts) ≤ h) then kk (xm_put (max l (lo + Int.ofNat (xm_len ts)), h) E j) a else true) (xm_tsw j l h E kk ts lo))
      | none => false) = true := h
    rw [xl_nth] at h
    cases hE : E[j]? with
    | none => rw [hE] at h; cases h
    | some q =>
      obtain ⟨l0, h0⟩ := q
      rw [hE] at h
      dsimp only at h
      rw [xl_len] at h
      simp only [Bool.and_eq_true] at h
      obtain ⟨h1, h2, h3⟩ := h
      have hb := hs j l0 h0 hE
      by_cases c1 : (xs_n Z j).toInt < lo
      · have d1 : decide (l0 < lo) = true := decide_eq_true (by omega)
        rw [d1] at h1
        exact ⟨xs_n Z j, _, rfl, xs_sat_put hs hb.1 (by omega), Or.inl ⟨Or.inl c1, h1⟩⟩
      · by_cases c2 : lo + (ts.length : Int) ≤ (xs_n Z j).toInt
        · have d1 : decide (lo + Int.ofNat ts.length ≤ h0) = true := decide_eq_true (by show lo + (ts.length : Int) ≤ h0; omega)
          rw [d1] at h2
          exact ⟨xs_n Z j, _, rfl, xs_sat_put hs (by show max l0 (lo + (ts.length : Int)) ≤ _; omega) hb.2, Or.inl ⟨Or.inr c2, h2⟩⟩
        · have c3 : ((xs_n Z j).toInt - lo).toNat < ts.length := by omega
          have c4 := List.getElem?_eq_getElem c3
          have h4 := xs_tsw h3 _ _ c4 (by omega) (by omega)
          have e : lo + (((xs_n Z j).toInt - lo).toNat : Int) = (xs_n Z j).toInt := by omega
          rw [e] at h4
          exact ⟨xs_n Z j, _, rfl, xs_sat_put hs (Int.le_refl _) (Int.le_refl _), Or.inr ⟨by omega, by omega, _, c4, h4⟩⟩
  | _ => cases h
theorem xb_tableswitch (X : xs_Cx p s m args c cc nL o Z) {full : List xm_E} {kj : List xm_E → xm_K} {d lo hi : Int} {offs : Array Int} {len a : Nat} {ts : List Nat} {w : Value} (hd : decode cc pc = .ok (.tableswitch d lo hi offs, len)) (h1 : xm_tg full a pc d = true) (h2 : xm_tgs full pc offs.toList ts = true) (h3 : hi + 1 = lo + (ts.length : Int)) (hk : xm_table lo a ts w E (fun E t => kj (xm_drop t full) lv st G E kc ks) = true) (g : ∀ (t : Nat) (e0 : xm_E) (rest : List xm_E), xm_drop t full = e0 :: rest → xs_good p l e R s m args below meth c Qf nL Z (kj (xm_drop t full)) e0.1) (S : xs_St Z nL lv G E H locs ls) : W p l e R s m args below meth c H locs kc ks Qf (F0 m pc ls ((w :: st).map (xs_cv Z))) := by
  obtain ⟨x, E', hx, s1, hh⟩ := xs_table hk S.1
  rw [List.map_cons, hx]
  rcases hh with ⟨b1, b2⟩ | ⟨b1, b2, t, ht, b3⟩
  · obtain ⟨e0, rest, f1, f2⟩ := xs_tg h1
    exact lv_tableOut X.1 X.2.1 hd (by omega) f2 (g a e0 rest f1 lv st G E' kc ks b2 H locs ls ⟨s1, S.2⟩)
  · obtain ⟨off, o1, o2⟩ := (xs_tgs h2).2 _ _ ht
    obtain ⟨e0, rest, f1, f2⟩ := xs_tg o2
    exact lv_tableIn X.1 X.2.1 hd (by omega) (by omega) (by rw [← Array.getElem?_toList]; exact o1) f2 (g t e0 rest f1 lv st G E' kc ks b3 H locs ls ⟨s1, S.2⟩)
theorem xs_look {full : List xm_E} {a : Nat} {d x : Int} (h1 : xm_tg full a pc d = true) : ∀ {ps : List (Int × Int)} {ts : List Nat}, xm_tgs full pc (ps.map (fun q => q.2)) ts = true → ∃ off, Op.lookupswitch.offset ps d x = off ∧ xm_tg full (xm_look a ps ts x) pc off = true
  | [], [], _ => ⟨d, rfl, h1⟩
  | [], _ :: _, h => by cases h
  | _ :: _, [], h => by cases h
  | q :: ps, t :: ts, h => by
    have h2 : (xm_tg full t pc q.2 && xm_tgs full pc (ps.map (fun q => q.2)) ts) = true := h
    rw [Bool.and_eq_true] at h2
    obtain ⟨off, o1, o2⟩ := xs_look h1 (x := x) h2.2
    by_cases e : q.1 = x
    · refine ⟨q.2, ?_, ?_⟩
      · simp [Op.lookupswitch.offset, e]
      · show xm_tg full (bif decide (q.1 = x) then t else xm_look a ps ts x) pc q.2 = true
        rw [decide_eq_true e]
        exact h2.1
    · refine ⟨off, ?_, ?_⟩
      · rw [← o1]
        simp [Op.lookupswitch.offset, e]
      · show xm_tg full (bif decide (q.1 = x) then t else xm_look a ps ts x) pc off = true
        rw [decide_eq_false e]
        exact o2
theorem xb_lookupswitch (X : xs_Cx p s m args c cc nL o Z) {full : List xm_E} {kj : List xm_E → xm_K} {d : Int} {ps : Array (Int × Int)} {len a : Nat} {ts : List Nat} {x : Int32} (hd : decode cc pc = .ok (.lookupswitch d ps, len)) (h1 : xm_tg full a pc d = true) (h2 : xm_tgs full pc (ps.toList.map (fun q => q.2)) ts = true) (h3 : (ps.toList.zip (ps.toList.drop 1)).all (fun (a, next) => a.1 < next.1) = true) (hk : kj (xm_drop (xm_look a ps.toList ts x.toInt) full) lv st G E kc ks = true) (g : ∀ (t : Nat) (e0 : xm_E) (rest : List xm_E), xm_drop t full = e0 :: rest → xs_good p l e R s m args below meth c Qf nL Z (kj (xm_drop t full)) e0.1) (S : xs_St Z nL lv G E H locs ls) : W p l e R s m args below meth c H locs kc ks Qf (F0 m pc ls ((.int x :: st).map (xs_cv Z))) := by
  obtain ⟨off, o1, o2⟩ := xs_look h1 (x := x.toInt) h2
  obtain ⟨e0, rest, f1, f2⟩ := xs_tg o2
  exact lv_lookup X.1 X.2.1 hd h3 o1 f2 (g _ e0 rest f1 lv st G E kc ks hk H locs ls S)
end XG
end
section
/-! calls -/
def xs_ws (r : xm_M) : List Jvm.Cond := .code r.2.1 r.2.2.1 r.2.2.2.1 r.2.2.2.2.1 :: xm_tb
def xs_rm (d : Nat) (r : xm_M) : Room := { frames := d, cells := r.2.2.2.2.2.2.1, slots := r.2.2.2.2.2.2.2.1, locals := 64 * d }
def xs_Pc (Z : xs_Z) (As : List Value) (G : xm_H) : Array Value → State → Prop := fun v U => v = (As.map (xs_cv Z)).toArray ∧ xs_HW Z G U.heap ∧ xs_KW Z U
def xs_Qc (Z : xs_Z) (Q : xm_Q) : Array Value → State → Outcome → State → Prop := fun _ _ oc t => ∃ r G' E', Q r G' E' = true ∧ xs_sat Z E' ∧ oc = .returned (r.map (xs_cv Z)) ∧ xs_HW Z G' t.heap
/-- the contracts of all methods at a depth -/
def xs_CH (l : Launch) (Z : xs_Z) (d : Nat) (call : xm_C) : Prop := ∀ (a : Nat) (r : xm_M), 1 ≤ a → xm_mtab[a]? = some r → ∀ (As : List Value) (G : xm_H) (E : xm_R) (Q : xm_Q), call a As G E Q = true → xs_sat Z E → Met l r.2.1 (xs_ws r) (xs_rm d r) (xs_Pc Z As G) (xs_Qc Z Q) r.2.2.2.2.2.2.1 r.2.2.2.2.2.2.2.1 (fun q => xs_b Z ≤ q)
theorem xs_blind (Z : xs_Z) (As : List Value) (G : xm_H) : FrameBlind (xs_Pc Z As G) := fun a U g mk h => ⟨h.1, h.2.1, xs_KW.same (s := U) (U := U.calling g mk a) rfl h.2.2⟩
theorem xs_pop : ∀ {n : Nat} {acc st : List Value} {kk : List Value → List Value → Bool}, xm_pop n acc st kk = true → ∃ xs st', st = xs ++ st' ∧ xs.length = n ∧ kk (xs.reverse ++ acc) st' = true
  | 0, acc, st, kk, h => ⟨[], st, rfl, rfl, h⟩
  | n + 1, acc, [], kk, h => by cases h
  | n + 1, acc, v :: st, kk, h => by
    have h1 : xm_pop n (v :: acc) st kk = true := h
    obtain ⟨xs, st', e1, e2, e3⟩ := xs_pop h1
    exact ⟨v :: xs, st', by rw [e1]; rfl, by simp [e2], by simpa using e3⟩
theorem xs_mok {r : xm_M} {f : Nat × Nat × Nat × Nat × Nat} (h : xm_mok r f = true) : Jvm.Cond.initialized r.2.1.cls ∈ xm_tb ∧ (f.1 = 0 → Jvm.Cond.static r.2.1 ∈ xm_tb) ∧ (f.1 = 1 → Jvm.Cond.instanceMethod r.2.1 ∈ xm_tb ∧ r.2.1.name = "<init>" ∧ r.2.2.2.2.1 = none) ∧ (f.1 = 2 → Jvm.Cond.instanceMethod r.2.1 ∈ xm_tb ∧ Jvm.Cond.selects r.2.1.cls r.2.1 r.2.1 ∈ xm_tb) ∧ plainName r.2.1.cls = true ∧ (r.2.1.cls ≠ "java/lang/invoke/MethodHandle" ∧ r.2.1.cls ≠ "java/lang/invoke/VarHandle") ∧ (parseMethodDescriptor r.2.1.desc).map (fun d => d.parameters.length) = some r.2.2.2.2.2.1 ∧ Jvm.Cond.code r.2.1 r.2.2.1 r.2.2.2.1 r.2.2.2.2.1 ∈ xm_tb ∧ r.2.2.2.1 ≤ 40 := by
  unfold xm_mok at h
  simp only [Bool.and_eq_true, Bool.not_eq_true', decide_eq_false_iff_not, decide_eq_true_eq] at h
  obtain ⟨h1, h2, h3, h4, h5, h6, h7, h8⟩ := h
  refine ⟨xk_w h1, fun e => ?_, fun e => ?_, fun e => ?_, h3, ⟨h4, h5⟩, h6, xk_w h7, Nat.le_of_ble_eq_true h8⟩
  · rw [e] at h2
    exact xk_w h2
  · rw [e] at h2
    simp only [Bool.and_eq_true, decide_eq_true_eq] at h2
    exact ⟨xk_w h2.1, h2.2.1, Option.isNone_iff_eq_none.mp h2.2.2⟩
  · rw [e] at h2
    simp only [Bool.and_eq_true] at h2
    exact ⟨xk_w h2.1, xk_w h2.2⟩
theorem xs_mall {a : Nat} {r : xm_M} (h1 : 1 ≤ a) (hr : xm_mtab[a]? = some r) : ∃ f, xm_mf[a]? = some f ∧ xm_mok r f = true := by
  have h2 : a < 241 := (List.getElem?_eq_some_iff.mp hr).1
  have h := xk_mall h1 h2
  unfold xm_mokN at h
  rw [hr] at h
  split at h
  · rename_i r' f e1 e2
    cases e1
    exact ⟨f, e2, h⟩
  · cases h
theorem xs_rcv1 {As : List Value} (h : xm_rcv1 As = true) : ∃ j As', As = .ref j :: As' := by
  unfold xm_rcv1 at h
  split at h
  · exact ⟨_, _, rfl⟩
  · cases h
theorem xs_rcv0 {cls : String} {G : xm_H} {As : List Value} (h : xm_rcv0 cls G As = true) : ∃ j As' t vs TT NN, As = .ref j :: As' ∧ xm_hget G j = some (t, vs) ∧ xm_cls[t]? = some (cls, TT, NN) := by
  unfold xm_rcv0 at h
  split at h
  · rename_i j As'
    cases hj : xm_hget G j with
    | none => rw [hj] at h; cases h
    | some q =>
      obtain ⟨t, vs⟩ := q
      rw [hj] at h
      dsimp only at h
      rw [xl_nth] at h
      cases ht : xm_cls[t]? with
      | none => rw [ht] at h; cases h
      | some rc =>
        obtain ⟨C, TT, NN⟩ := rc
        rw [ht] at h
        have h : cls = C := of_decide_eq_true h
        subst h
        exact ⟨j, As', t, vs, TT, NN, rfl, hj, ht⟩
  · cases h
section XH
variable {p : Program} {l : Launch} {e : Env} {R : Room} {s : State} {m : MethodId} {args : Array Value} {below : List Frame} {meth : Method} {c : Code} {Qf : State → Prop} {cc : ByteArray} {nL o : Nat} {Z : xs_Z}
variable {lv : xm_L} {st : List Value} {G : xm_H} {E : xm_R} {kc ks pc mc ms : Nat} {k : xm_K} {H : Heap} {locs : List Loc} {ls : Array Slot}
theorem xs_ml (X : xs_Cx p s m args c cc nL o Z) {i a b : Nat} {r : xm_M} (h : xm_at3 (xm_ml o) (i, a, b) = true) (hr : xm_mtab[a]? = some r) : 1 ≤ a ∧ ∃ f, xm_mok r f = true ∧ (b = 0 → f.1 = 2 ∧ (Jvm.Cond.methodLink (xm_own o) i r.2.1).before args s = true) ∧ (b = 1 → f.1 = 0 ∧ (Jvm.Cond.methodLink (xm_own o) i r.2.1).before args s = true) ∧ (b = 2 → f.1 = 1 ∧ (Jvm.Cond.methodLink (xm_own o) i r.2.1).before args s = true) ∧ (b = 3 → f.1 = 0 ∧ va_Nw (.methodLinkNest (xm_own o) i r.2.1 "StairNews") s) ∧ (b = 4 → f.1 = 1 ∧ va_Nw (.methodLinkNest (xm_own o) i r.2.1 "StairNews") s) := by
  obtain ⟨q, hq, e1, e2, e3⟩ := xs_at3 h
  have h4 := List.all_eq_true.mp (xk_ml o X.2.2.2.2.2.2) q hq
  have ha : a < 241 := (List.getElem?_eq_some_iff.mp hr).1
  have n0 : Nat.beq a 1000 = false := Bool.eq_false_iff.mpr (fun q => by have := Nat.eq_of_beq_eq_true q; omega)
  have n1 : Nat.beq a 1001 = false := Bool.eq_false_iff.mpr (fun q => by have := Nat.eq_of_beq_eq_true q; omega)
  have n2 : Nat.beq a 1002 = false := Bool.eq_false_iff.mpr (fun q => by have := Nat.eq_of_beq_eq_true q; omega)
  unfold xm_mlok at h4
  rw [e1, e2, e3, n0, n1, n2, cond_false, cond_false, cond_false, hr] at h4
  have ha1 : 1 ≤ a := by
    rcases Nat.eq_zero_or_pos a with rfl | h9
    · exfalso
      have h5 : xm_mf[0]? = some (9, 0, 0, 0, 0) := rfl
      rw [h5] at h4
      dsimp only at h4
      split at h4
      · rw [Bool.and_eq_true] at h4; exact absurd h4.2 (by decide)
      · rw [Bool.and_eq_true] at h4; exact absurd h4.2 (by decide)
      · rw [Bool.and_eq_true] at h4; exact absurd h4.2 (by decide)
      · rw [Bool.and_eq_true] at h4; exact absurd h4.2 (by decide)
      · rw [Bool.and_eq_true] at h4; exact absurd h4.2 (by decide)
      · cases h4
    · exact h9
  obtain ⟨f, hf, hm⟩ := xs_mall ha1 hr
  rw [hf] at h4
  refine ⟨ha1, f, hm, fun eb => ?_, fun eb => ?_, fun eb => ?_, fun eb => ?_, fun eb => ?_⟩
  · subst eb
    have h4 : (xm_w q.2.2.2 (.methodLink (xm_own o) i r.2.1) && Nat.beq f.1 2) = true := h4
    rw [Bool.and_eq_true] at h4
    exact ⟨Nat.eq_of_beq_eq_true h4.2, xs_word X h4.1⟩
  · subst eb
    have h4 : (xm_w q.2.2.2 (.methodLink (xm_own o) i r.2.1) && Nat.beq f.1 0) = true := h4
    rw [Bool.and_eq_true] at h4
    exact ⟨Nat.eq_of_beq_eq_true h4.2, xs_word X h4.1⟩
  · subst eb
    have h4 : (xm_w q.2.2.2 (.methodLink (xm_own o) i r.2.1) && Nat.beq f.1 1) = true := h4
    rw [Bool.and_eq_true] at h4
    exact ⟨Nat.eq_of_beq_eq_true h4.2, xs_word X h4.1⟩
  · subst eb
    have h4 : (decide (Jvm.Cond.methodLinkNest (xm_own o) i r.2.1 "StairNews" ∈ xm_nest) && Nat.beq f.1 0) = true := h4
    rw [Bool.and_eq_true, decide_eq_true_eq] at h4
    exact ⟨Nat.eq_of_beq_eq_true h4.2, X.2.2.2.2.2.1.2.1 _ h4.1⟩
  · subst eb
    have h4 : (decide (Jvm.Cond.methodLinkNest (xm_own o) i r.2.1 "StairNews" ∈ xm_nest) && Nat.beq f.1 1) = true := h4
    rw [Bool.and_eq_true, decide_eq_true_eq] at h4
    exact ⟨Nat.eq_of_beq_eq_true h4.2, X.2.2.2.2.2.1.2.1 _ h4.1⟩
theorem xs_good_w {w : Jvm.Cond} (h : w ∈ xm_tb) : (w.onTables && w.keeps) = true ∨ ∃ ty, w = .arrayClass ty := good_of_word (List.mem_filter.mp h).2
theorem xs_pay (X : xs_Cx p s m args c cc nL o Z) {r : xm_M} (hc : Jvm.Cond.code r.2.1 r.2.2.1 r.2.2.2.1 r.2.2.2.2.1 ∈ xm_tb) : ∀ w ∈ xs_ws r, ∀ (a' : Array Value) (U : State), s.WarmedH U.vm → w.before a' U = true := by
  intro w hw a' U hW
  have h1 : w ∈ xm_tb := by
    rcases List.mem_cons.mp hw with rfl | h
    · exact hc
    · exact h
  exact word_at hW (xs_good_w h1) (X.2.2.2.2.1 w h1)
/-- behind a call -/
theorem xs_after {n0 : Nat} {st0 : List Value} {r : xm_M} {kk : xm_Q} {a1 : Array Value} {rest : List Value} (S : xs_St Z nL lv G E H locs ls) (hr : va_Run p l e R s m args below meth c H locs kc ks r.2.2.2.2.2.2.1 r.2.2.2.2.2.2.2.1 (F0 m pc ls st0) (rest.map (xs_cv Z)) (xs_Qc Z kk a1) (fun q => xs_b Z ≤ q)) (hkk : ∀ v G' E', kk v G' E' = true → k lv (match v with
    | some v => v :: rest
    | none => rest) G' E' (kc + r.2.2.2.2.2.2.1) (ks + r.2.2.2.2.2.2.2.1) = true) (g : xs_good p l e R s m args below meth c Qf nL Z k (pc + 3)) : W p l e R s m args below meth c H locs kc ks Qf (F0 m pc ls st0) := by
  intro T hT XX
  obtain ⟨v, st₀, t, T', L, h0, X', hL, e1, e2, ⟨u, G', E', q1, q2, q3, q4⟩, hst⟩ := hr T hT XX
  cases q3
  obtain ⟨t2, a2, b2⟩ := g lv _ G' E' _ _ (hkk u G' E' q1) T'.heap (locs ++ L) ls ⟨q2, by rw [e1]; exact q4, S.2.2.1, fun q hq => by
    rcases List.mem_append.mp hq with h | h
    · exact S.2.2.2 q h
    · exact hL q h⟩ T' rfl X'
  refine ⟨t2, hst t2 ?_, b2⟩
  cases u with
  | none => exact a2
  | some w => exact a2
theorem xb_call (X : xs_Cx p s m args c cc nL o Z) {call : xm_C} {d i a b : Nat} (hb : b = 0 ∨ b = 1 ∨ b = 2 ∨ b = 3 ∨ b = 4) (hd : decode cc pc = .ok ((match b with
    | 0 => Instr.invokevirtual i
    | 1 => .invokestatic i
    | 3 => .invokestatic i
    | _ => .invokespecial i), 3)) (hml : xm_at3 (xm_ml o) (i, a, b) = true) (hR : d + 1 ≤ R.frames ∧ 64 * (d + 1) ≤ R.locals ∧ mc ≤ R.cells ∧ ms ≤ R.slots) (hC : xs_CH l Z d call) (hk : xm_call call mc ms a b st G E kc ks (fun st G E kc ks => k lv st G E kc ks) = true) (g : xs_good p l e R s m args below meth c Qf nL Z k (pc + 3)) (S : xs_St Z nL lv G E H locs ls) : W p l e R s m args below meth c H locs kc ks Qf (F0 m pc ls (st.map (xs_cv Z))) := by
  unfold xm_call at hk
  rw [xl_nth] at hk
  cases hr : xm_mtab[a]? with
  | none => rw [hr] at hk; cases hk
  | some r =>
    rw [hr] at hk
    obtain ⟨ha1, f, hm, L0, L1, L2, L3, L4⟩ := xs_ml X hml hr
    obtain ⟨w1, w2, w3, w4, w5, w6, w7, w8, w9⟩ := xs_mok hm
    obtain ⟨ro, ry, rb, rL, rr, rn, rmc, rms, rcode⟩ := r
    dsimp only at hk w1 w2 w3 w4 w5 w6 w7 w8 w9 L0 L1 L2 L3 L4
    cases hc : (Nat.ble (kc + rmc) mc && Nat.ble (ks + rms) ms) with
    | false => rw [hc] at hk; cases hk
    | true =>
      rw [hc, cond_true] at hk
      rw [Bool.and_eq_true] at hc
      have c1 : kc + rmc ≤ mc := Nat.le_of_ble_eq_true hc.1
      have c2 : ks + rms ≤ ms := Nat.le_of_ble_eq_true hc.2
      obtain ⟨xs, st', e1, e2, h3⟩ := xs_pop hk
      rw [List.append_nil] at h3
      generalize hAs : xs.reverse = As at h3
      have hxs : xs = As.reverse := by rw [← hAs, List.reverse_reverse]
      cases h4 : (Nat.ble (xm_cats st') 8 && xm_rcv b ry.cls G As) with
      | false => rw [h4] at h3; cases h3
      | true =>
        rw [h4, cond_true] at h3
        rw [Bool.and_eq_true] at h4
        obtain ⟨h4, h5⟩ := h4
        have h4 : xm_cats st' ≤ 8 := Nat.le_of_ble_eq_true h4
        have hM := hC a _ ha1 hr As G E _ h3 S.1
        have hpay := xs_pay X (r := (ro, ry, rb, rL, rr, rn, rmc, rms, rcode)) w8
        have hlen : ∀ sig, parseMethodDescriptor ry.desc = some sig → rn = sig.parameters.length := by
          intro sig hs
          rw [hs] at w7
          exact (Option.some.inj w7).symm
        have hroom : 2 * (F0 m pc ls (st.map (xs_cv Z))).monitorRoom + ((st'.map (xs_cv Z)).map fun v => v.category).sum ≤ 8 := lv_room (by rw [xs_cats]; exact h4)
        have hfit : kc + rmc ≤ R.cells ∧ ks + rms ≤ R.slots := ⟨Nat.le_trans c1 hR.2.2.1, Nat.le_trans c2 hR.2.2.2⟩
        have hfr : d + 1 ≤ R.frames := hR.1
        have hlo : 8 + (rL + 11) + 64 * d ≤ R.locals := by have := hR.2.1; omega
        have hcode := X.2.2.2.2.1 _ w8
        have hini := X.2.2.2.2.1 _ w1
        have S0 : CallFix p m c cc nL s args xm_tb (xm_own o) := ⟨X.1, X.2.1, X.2.2.1, X.2.2.2.1, X.2.2.2.2.1⟩
        have hsize : (F0 m pc ls (st.map (xs_cv Z))).locals.size = nL := S.2.2.1.1
        have hpre : PreS s H (xs_Pc Z As G) (As.map (xs_cv Z)) := ⟨xs_blind Z As G, fun U hU hW => ⟨rfl, by rw [hU]; exact S.2.1, X.2.2.2.2.2.1.warm hW⟩⟩
        have hB : ∀ hl : (Jvm.Cond.methodLink (xm_own o) i ry).before args s = true, CallB R s args (xm_own o) i ry rb rL rr (xs_ws (ro, ry, rb, rL, rr, rn, rmc, rms, rcode)) (xs_rm d (ro, ry, rb, rL, rr, rn, rmc, rms, rcode)) rmc rms rn := fun hl => ⟨rfl, rfl, hfr, hlo, hpay, List.mem_cons_self, hcode, hini, w6, hlen, hl⟩
        have hN : ∀ hl : va_Nw (.methodLinkNest (xm_own o) i ry "StairNews") s, va_CN R s args (xm_own o) i ry "StairNews" rb rL rr (xs_ws (ro, ry, rb, rL, rr, rn, rmc, rms, rcode)) (xs_rm d (ro, ry, rb, rL, rr, rn, rmc, rms, rcode)) rmc rms rn := fun hl => ⟨⟨rfl, rfl, hfr, hlo, hpay, List.mem_cons_self⟩, hcode, hini, w6, hlen, va_Nw.use rfl hl⟩
        have hst : ∀ zs : List Value, zs = As.map (xs_cv Z) → (F0 m pc ls (st.map (xs_cv Z))).stack = zs.reverse ++ st'.map (xs_cv Z) := by
          intro zs hz
          show st.map (xs_cv Z) = _
          rw [e1, hxs, hz, List.map_append, List.map_reverse]
        rcases hb with rfl | rfl | rfl | rfl | rfl
        · -- virtual
          obtain ⟨f2, hl⟩ := L0 rfl
          obtain ⟨i1, i2⟩ := w4 f2
          obtain ⟨j, As', t, vs, TT, NN, rfl, hj, ht⟩ := xs_rcv0 (show xm_rcv0 ry.cls G As = true from h5)
          obtain ⟨cell, v1, v2, v3, -⟩ := xs_recv X S.2.1 hj ht
          refine xs_after (n0 := 0) S (va_runV (As := As'.map (xs_cv Z)) S0 hM ⟨hB hl, X.2.2.2.2.1 _ i1, X.2.2.2.2.1 _ i2⟩ ⟨xs_blind Z _ G, ⟨cell, v1, by rw [v2]; rfl, v3⟩, hpre.2⟩ rfl ?_ hsize ?_ hroom hd hfit) (fun v G' E' h => h) g
          · have h7 := congrArg List.length hxs
            have e2 : xs.length = rn + 1 := e2
            rw [e2, List.length_reverse, List.length_cons] at h7
            rw [List.length_map]
            omega
          · rw [hst _ rfl]
            simp [xs_cv]
        · obtain ⟨f2, hl⟩ := L1 rfl
          refine xs_after (n0 := 0) S (va_runS S0 hM ⟨hB hl, X.2.2.2.2.1 _ (w2 f2)⟩ hpre rfl ?_ hsize (hst _ rfl) hroom hd hfit) (fun v G' E' h => h) g
          have h7 := congrArg List.length hxs
          have e2 : xs.length = rn := e2
          rw [e2, List.length_reverse] at h7
          rw [List.length_map]
          exact h7.symm
        · obtain ⟨f2, hl⟩ := L2 rfl
          obtain ⟨i1, i2, i3⟩ := w3 f2
          have i3 : rr = none := i3
          subst i3
          obtain ⟨j, As', rfl⟩ := xs_rcv1 (show xm_rcv1 As = true from h5)
          · refine xs_after (n0 := 0) S (va_runI (As := As'.map (xs_cv Z)) S0 hM ⟨hB hl, i2, X.2.2.2.2.1 _ i1⟩ hpre rfl ?_ hsize ?_ hroom hd hfit) (fun v G' E' h => h) g
            · have h7 := congrArg List.length hxs
              have e2 : xs.length = rn + 1 := e2
              rw [e2, List.length_reverse, List.length_cons] at h7
              rw [List.length_map]
              omega
            · rw [hst _ rfl]
              simp [xs_cv]
        · obtain ⟨f2, hl⟩ := L3 rfl
          refine xs_after (n0 := 0) S (va_runSN (host := "StairNews") S0 hM ⟨hN hl, X.2.2.2.2.1 _ (w2 f2), trivial⟩ hpre rfl ?_ hsize (hst _ rfl) hroom hd hfit) (fun v G' E' h => h) g
          have h7 := congrArg List.length hxs
          have e2 : xs.length = rn := e2
          rw [e2, List.length_reverse] at h7
          rw [List.length_map]
          exact h7.symm
        · obtain ⟨f2, hl⟩ := L4 rfl
          obtain ⟨i1, i2, i3⟩ := w3 f2
          have i3 : rr = none := i3
          subst i3
          obtain ⟨j, As', rfl⟩ := xs_rcv1 (show xm_rcv1 As = true from h5)
          · refine xs_after (n0 := 0) S (va_runIN (host := "StairNews") (As := As'.map (xs_cv Z)) S0 hM ⟨hN hl, i2, X.2.2.2.2.1 _ i1⟩ hpre rfl ?_ hsize ?_ hroom hd hfit) (fun v G' E' h => h) g
            · have h7 := congrArg List.length hxs
              have e2 : xs.length = rn + 1 := e2
              rw [e2, List.length_reverse, List.length_cons] at h7
              rw [List.length_map]
              omega
            · rw [hst _ rfl]
              simp [xs_cv]
end XH
end
section
/-! a step of the machine, a step of the JVM: all instructions -/
def xs_Rt (ret : Option FieldType) (i : Instr) (v : Option Value) (st1 : List Value) : Prop :=
  (i = .ireturn ∧ ∃ w, st1 = [w] ∧ v = some w ∧ xm_isI w = true ∧ xm_rok ret w = true) ∨ (i = .lreturn ∧ ∃ w, st1 = [w] ∧ v = some w ∧ xm_isL w = true ∧ xm_rok ret w = true) ∨ (i = .areturn ∧ ∃ w, st1 = [w] ∧ v = some w ∧ xm_isA w = true ∧ xm_rok ret w = true) ∨ (i = .return_ ∧ st1 = [] ∧ v = none ∧ ret = none)
/-- what a return must give -/
def xs_RH (p : Program) (l : Launch) (e : Env) (R : Room) (s : State) (m : MethodId) (args : Array Value) (below : List Frame) (meth : Method) (c : Code) (Qf : State → Prop) (cc : ByteArray) (nL mc ms : Nat) (ret : Option FieldType) (Q : xm_Q) (Z : xs_Z) : Prop :=
  ∀ (pc : Nat) (i : Instr) (v : Option Value) (st1 : List Value) (kc ks : Nat) (lv : xm_L) (G : xm_H) (E : xm_R) (H : Heap) (locs : List Loc) (ls : Array Slot), decode cc pc = .ok (i, 1) → xs_Rt ret i v st1 → Q v G E = true → kc ≤ mc → ks ≤ ms → xs_St Z nL lv G E H locs ls → W p l e R s m args below meth c H locs kc ks Qf (F0 m pc ls (st1.map (xs_cv Z)))
theorem xk_len : xm_mtab.length = 241 := by decide +kernel
theorem xs_s {cc : ByteArray} {pc : Nat} {i : Instr} {q : Nat × Nat × List Nat × Value} {rest : List xm_E} {n : Nat} (h : xm_s cc (pc, i, q) rest n = true) : decode cc pc = .ok (i, n) ∧ ∃ e1 rest', rest = e1 :: rest' ∧ e1.1 = pc + n := by
  unfold xm_s xm_dc at h
  rw [Bool.and_eq_true, decide_eq_true_eq] at h
  refine ⟨h.1, ?_⟩
  have h2 := h.2
  unfold xm_nx at h2
  split at h2
  · rename_i e1 rest'
    exact ⟨e1, rest', rfl, Nat.eq_of_beq_eq_true h2⟩
  · cases h2
theorem xs_dw {cc : ByteArray} {pc : Nat} {i : Instr} {q : Nat × Nat × List Nat × Value} (h : xm_dw cc (pc, i, q) = true) : ∃ len, decode cc pc = .ok (i, len) := by
  unfold xm_dw at h
  dsimp only at h
  cases hd : decode cc pc with
  | error x => rw [hd] at h; cases h
  | ok y =>
    obtain ⟨i', len⟩ := y
    rw [hd] at h
    have h : i' = i := of_decide_eq_true h
    subst h
    exact ⟨len, rfl⟩
section XI
variable {p : Program} {l : Launch} {e : Env} {R : Room} {s : State} {m : MethodId} {args : Array Value} {below : List Frame} {meth : Method} {c : Code} {Qf : State → Prop} {cc : ByteArray} {nL o : Nat} {Z : xs_Z}
variable {lv : xm_L} {st : List Value} {G : xm_H} {E : xm_R} {kc ks pc mc ms : Nat} {k : xm_K} {H : Heap} {locs : List Loc} {ls : Array Slot}
set_option maxHeartbeats 4000000 in
theorem xs_body (X : xs_Cx p s m args c cc nL o Z) {call : xm_C} {d : Nat} {full rest : List xm_E} {ini : Bool} {ret : Option FieldType} {Q : xm_Q} {ih : List xm_E → xm_K} {e0 : xm_E} (hok : xm_okE o ini cc full rest e0 = true) (hini : ini = true → meth.name = "<init>") (hR : d + 1 ≤ R.frames ∧ 64 * (d + 1) ≤ R.locals ∧ mc ≤ R.cells ∧ ms ≤ R.slots) (hC : xs_CH l Z d call)
    (hrest : ∀ e1 rest', rest = e1 :: rest' → xs_good p l e R s m args below meth c Qf nL Z (ih rest) e1.1) (hjump : ∀ (t : Nat) (e1 : xm_E) (rest' : List xm_E), xm_drop t full = e1 :: rest' → xs_good p l e R s m args below meth c Qf nL Z (ih (xm_drop t full)) e1.1)
    (hret : xs_RH p l e R s m args below meth c Qf cc nL mc ms ret Q Z) (hk : xm_body call full nL mc ms ret Q ih e0 rest lv st G E kc ks = true) (S : xs_St Z nL lv G E H locs ls) : W p l e R s m args below meth c H locs kc ks Qf (F0 m e0.1 ls (st.map (xs_cv Z))) := by
  obtain ⟨pc, i, a, b, ts, v⟩ := e0
  show W p l e R s m args below meth c H locs kc ks Qf (F0 m pc ls (st.map (xs_cv Z)))
  have gs : ∀ {n : Nat}, xm_s cc (pc, i, a, b, ts, v) rest n = true → decode cc pc = .ok (i, n) ∧ xs_good p l e R s m args below meth c Qf nL Z (ih rest) (pc + n) := by
    intro n h
    obtain ⟨h1, e1, rest', h2, h3⟩ := xs_s h
    have h4 := hrest e1 rest' h2
    rw [h3] at h4
    exact ⟨h1, h4⟩
  have gj : ∀ {t : Nat} {off : Int}, xm_tg full t pc off = true → ∃ tgt : Nat, (pc : Int) + off = (tgt : Int) ∧ xs_good p l e R s m args below meth c Qf nL Z (ih (xm_drop t full)) tgt := by
    intro t off h
    obtain ⟨e1, rest', h2, h3⟩ := xs_tg h
    exact ⟨e1.1, h3, hjump t e1 rest' h2⟩
  cases i with
  | iconst n =>
    have hok : (xm_s cc (pc, .iconst n, a, b, ts, v) rest 1 && decide (v = .int (Int32.ofInt n))) = true := hok
    rw [Bool.and_eq_true] at hok
    obtain ⟨h1, h2⟩ := hok
    obtain ⟨hd, g⟩ := gs h1
    exact xb_iconst X hd (of_decide_eq_true h2) hk g S
  | bipush n =>
    have hok : (xm_s cc (pc, .bipush n, a, b, ts, v) rest 2 && decide (v = .int (Int8.ofInt n).toInt32)) = true := hok
    rw [Bool.and_eq_true] at hok
    obtain ⟨h1, h2⟩ := hok
    obtain ⟨hd, g⟩ := gs h1
    exact xb_bipush X hd (of_decide_eq_true h2) hk g S
  | sipush n =>
    have hok : (xm_s cc (pc, .sipush n, a, b, ts, v) rest 3 && decide (v = .int (Int16.ofInt n).toInt32)) = true := hok
    rw [Bool.and_eq_true] at hok
    obtain ⟨h1, h2⟩ := hok
    obtain ⟨hd, g⟩ := gs h1
    exact xb_sipush X hd (of_decide_eq_true h2) hk g S
  | lconst n =>
    have hok : (xm_s cc (pc, .lconst n, a, b, ts, v) rest 1 && decide (v = .long (Int64.ofNat (n : Nat)))) = true := hok
    rw [Bool.and_eq_true] at hok
    obtain ⟨h1, h2⟩ := hok
    obtain ⟨hd, g⟩ := gs h1
    exact xb_lconst X hd (of_decide_eq_true h2) hk g S
  | aconst_null =>
    have hok : (xm_s cc (pc, .aconst_null, a, b, ts, v) rest 1 && decide (v = .null)) = true := hok
    rw [Bool.and_eq_true] at hok
    obtain ⟨h1, h2⟩ := hok
    obtain ⟨hd, g⟩ := gs h1
    exact xb_aconst_null X hd (of_decide_eq_true h2) hk g S
  | ldc i =>
    have hok : (xm_s cc (pc, .ldc i, a, b, ts, v) rest 2 && (xm_atk (xm_kl o) i v && xm_ki v)) = true := hok
    rw [Bool.and_eq_true] at hok
    obtain ⟨h1, h2⟩ := hok
    obtain ⟨hd, g⟩ := gs h1
    rw [Bool.and_eq_true] at h2
    exact xb_ldc X hd h2.1 h2.2 hk g S
  | ldc_w i =>
    have hok : (xm_s cc (pc, .ldc_w i, a, b, ts, v) rest 3 && (xm_atk (xm_kl o) i v && xm_kii v)) = true := hok
    rw [Bool.and_eq_true] at hok
    obtain ⟨h1, h2⟩ := hok
    obtain ⟨hd, g⟩ := gs h1
    rw [Bool.and_eq_true] at h2
    exact xb_ldc_w X hd h2.1 h2.2 hk g S
  | ldc2_w i =>
    have hok : (xm_s cc (pc, .ldc2_w i, a, b, ts, v) rest 3 && (xm_atk (xm_kl o) i v && xm_kll v)) = true := hok
    rw [Bool.and_eq_true] at hok
    obtain ⟨h1, h2⟩ := hok
    obtain ⟨hd, g⟩ := gs h1
    rw [Bool.and_eq_true] at h2
    exact xb_ldc2_w X hd h2.1 h2.2 hk g S
  | iload i =>
    have hok : (xm_s cc (pc, .iload i, a, b, ts, v) rest 2 && Nat.beq a i) = true := hok
    rw [Bool.and_eq_true] at hok
    obtain ⟨h1, h2⟩ := hok
    obtain ⟨hd, g⟩ := gs h1
    have ha := Nat.eq_of_beq_eq_true h2
    replace hk : (match xm_get lv a with
      | some w => bif xm_isI w then ih rest lv (w :: st) G E kc ks else false
      | none => false) = true := hk
    cases hw : xm_get lv a with
    | none => rw [hw] at hk; cases hk
    | some w =>
      rw [hw] at hk
      dsimp only at hk
      cases hI : xm_isI w with
      | false => rw [hI] at hk; cases hk
      | true =>
        rw [hI, cond_true] at hk
        subst ha
        exact xb_iload X hd hw hI hk g S
  | iload_n i =>
    have hok : (xm_s cc (pc, .iload_n i, a, b, ts, v) rest 1 && Nat.beq a (i : Nat)) = true := hok
    rw [Bool.and_eq_true] at hok
    obtain ⟨h1, h2⟩ := hok
    obtain ⟨hd, g⟩ := gs h1
    have ha := Nat.eq_of_beq_eq_true h2
    replace hk : (match xm_get lv a with
      | some w => bif xm_isI w then ih rest lv (w :: st) G E kc ks else false
      | none => false) = true := hk
    cases hw : xm_get lv a with
    | none => rw [hw] at hk; cases hk
    | some w =>
      rw [hw] at hk
      dsimp only at hk
      cases hI : xm_isI w with
      | false => rw [hI] at hk; cases hk
      | true =>
        rw [hI, cond_true] at hk
        exact xb_iload_n X hd ha.symm hw hI hk g S
  | lload i =>
    have hok : (xm_s cc (pc, .lload i, a, b, ts, v) rest 2 && Nat.beq a i) = true := hok
    rw [Bool.and_eq_true] at hok
    obtain ⟨h1, h2⟩ := hok
    obtain ⟨hd, g⟩ := gs h1
    have ha := Nat.eq_of_beq_eq_true h2
    replace hk : (match xm_get lv a with
      | some w => bif xm_isL w then ih rest lv (w :: st) G E kc ks else false
      | none => false) = true := hk
    cases hw : xm_get lv a with
    | none => rw [hw] at hk; cases hk
    | some w =>
      rw [hw] at hk
      dsimp only at hk
      cases hI : xm_isL w with
      | false => rw [hI] at hk; cases hk
      | true =>
        rw [hI, cond_true] at hk
        subst ha
        exact xb_lload X hd hw hI hk g S
  | lload_n i =>
    have hok : (xm_s cc (pc, .lload_n i, a, b, ts, v) rest 1 && Nat.beq a (i : Nat)) = true := hok
    rw [Bool.and_eq_true] at hok
    obtain ⟨h1, h2⟩ := hok
    obtain ⟨hd, g⟩ := gs h1
    have ha := Nat.eq_of_beq_eq_true h2
    replace hk : (match xm_get lv a with
      | some w => bif xm_isL w then ih rest lv (w :: st) G E kc ks else false
      | none => false) = true := hk
    cases hw : xm_get lv a with
    | none => rw [hw] at hk; cases hk
    | some w =>
      rw [hw] at hk
      dsimp only at hk
      cases hI : xm_isL w with
      | false => rw [hI] at hk; cases hk
      | true =>
        rw [hI, cond_true] at hk
        exact xb_lload_n X hd ha.symm hw hI hk g S
  | aload i =>
    have hok : (xm_s cc (pc, .aload i, a, b, ts, v) rest 2 && Nat.beq a i) = true := hok
    rw [Bool.and_eq_true] at hok
    obtain ⟨h1, h2⟩ := hok
    obtain ⟨hd, g⟩ := gs h1
    have ha := Nat.eq_of_beq_eq_true h2
    replace hk : (match xm_get lv a with
      | some w => bif xm_isA w then ih rest lv (w :: st) G E kc ks else false
      | none => false) = true := hk
    cases hw : xm_get lv a with
    | none => rw [hw] at hk; cases hk
    | some w =>
      rw [hw] at hk
      dsimp only at hk
      cases hI : xm_isA w with
      | false => rw [hI] at hk; cases hk
      | true =>
        rw [hI, cond_true] at hk
        subst ha
        exact xb_aload X hd hw hI hk g S
  | aload_n i =>
    have hok : (xm_s cc (pc, .aload_n i, a, b, ts, v) rest 1 && Nat.beq a (i : Nat)) = true := hok
    rw [Bool.and_eq_true] at hok
    obtain ⟨h1, h2⟩ := hok
    obtain ⟨hd, g⟩ := gs h1
    have ha := Nat.eq_of_beq_eq_true h2
    replace hk : (match xm_get lv a with
      | some w => bif xm_isA w then ih rest lv (w :: st) G E kc ks else false
      | none => false) = true := hk
    cases hw : xm_get lv a with
    | none => rw [hw] at hk; cases hk
    | some w =>
      rw [hw] at hk
      dsimp only at hk
      cases hI : xm_isA w with
      | false => rw [hI] at hk; cases hk
      | true =>
        rw [hI, cond_true] at hk
        exact xb_aload_n X hd ha.symm hw hI hk g S
  | istore i =>
    have hok : (xm_s cc (pc, .istore i, a, b, ts, v) rest 2 && Nat.beq a i) = true := hok
    rw [Bool.and_eq_true] at hok
    obtain ⟨h1, h2⟩ := hok
    obtain ⟨hd, g⟩ := gs h1
    have ha := Nat.eq_of_beq_eq_true h2
    replace hk : (match (generalizing := false) st with
      | w :: st => bif xm_isI w && Nat.blt a nL then ih rest (xm_set1 lv a w) st G E kc ks else false
      | _ => false) = true := hk
    split at hk
    · rename_i w st'
      cases hI : (xm_isI w && Nat.blt a nL) with
      | false => rw [hI] at hk; cases hk
      | true =>
        rw [hI, cond_true] at hk
        rw [Bool.and_eq_true] at hI
        subst ha
        exact xb_istore X hd hI.1 (Nat.le_of_ble_eq_true hI.2) hk g S
    · cases hk
  | istore_n i =>
    have hok : (xm_s cc (pc, .istore_n i, a, b, ts, v) rest 1 && Nat.beq a (i : Nat)) = true := hok
    rw [Bool.and_eq_true] at hok
    obtain ⟨h1, h2⟩ := hok
    obtain ⟨hd, g⟩ := gs h1
    have ha := Nat.eq_of_beq_eq_true h2
    replace hk : (match (generalizing := false) st with
      | w :: st => bif xm_isI w && Nat.blt a nL then ih rest (xm_set1 lv a w) st G E kc ks else false
      | _ => false) = true := hk
    split at hk
    · rename_i w st'
      cases hI : (xm_isI w && Nat.blt a nL) with
      | false => rw [hI] at hk; cases hk
      | true =>
        rw [hI, cond_true] at hk
        rw [Bool.and_eq_true] at hI
        exact xb_istore_n X hd ha.symm hI.1 (Nat.le_of_ble_eq_true hI.2) hk g S
    · cases hk
  | lstore i =>
    have hok : (xm_s cc (pc, .lstore i, a, b, ts, v) rest 2 && Nat.beq a i) = true := hok
    rw [Bool.and_eq_true] at hok
    obtain ⟨h1, h2⟩ := hok
    obtain ⟨hd, g⟩ := gs h1
    have ha := Nat.eq_of_beq_eq_true h2
    replace hk : (match (generalizing := false) st with
      | w :: st => bif xm_isL w && Nat.blt (a + 1) nL then ih rest (xm_set2 lv a w) st G E kc ks else false
      | _ => false) = true := hk
    split at hk
    · rename_i w st'
      cases hI : (xm_isL w && Nat.blt (a + 1) nL) with
      | false => rw [hI] at hk; cases hk
      | true =>
        rw [hI, cond_true] at hk
        rw [Bool.and_eq_true] at hI
        subst ha
        exact xb_lstore X hd hI.1 (Nat.le_of_ble_eq_true hI.2) hk g S
    · cases hk
  | lstore_n i =>
    have hok : (xm_s cc (pc, .lstore_n i, a, b, ts, v) rest 1 && Nat.beq a (i : Nat)) = true := hok
    rw [Bool.and_eq_true] at hok
    obtain ⟨h1, h2⟩ := hok
    obtain ⟨hd, g⟩ := gs h1
    have ha := Nat.eq_of_beq_eq_true h2
    replace hk : (match (generalizing := false) st with
      | w :: st => bif xm_isL w && Nat.blt (a + 1) nL then ih rest (xm_set2 lv a w) st G E kc ks else false
      | _ => false) = true := hk
    split at hk
    · rename_i w st'
      cases hI : (xm_isL w && Nat.blt (a + 1) nL) with
      | false => rw [hI] at hk; cases hk
      | true =>
        rw [hI, cond_true] at hk
        rw [Bool.and_eq_true] at hI
        exact xb_lstore_n X hd ha.symm hI.1 (Nat.le_of_ble_eq_true hI.2) hk g S
    · cases hk
  | astore i =>
    have hok : (xm_s cc (pc, .astore i, a, b, ts, v) rest 2 && Nat.beq a i) = true := hok
    rw [Bool.and_eq_true] at hok
    obtain ⟨h1, h2⟩ := hok
    obtain ⟨hd, g⟩ := gs h1
    have ha := Nat.eq_of_beq_eq_true h2
    replace hk : (match (generalizing := false) st with
      | w :: st => bif xm_isA w && Nat.blt a nL then ih rest (xm_set1 lv a w) st G E kc ks else false
      | _ => false) = true := hk
    split at hk
    · rename_i w st'
      cases hI : (xm_isA w && Nat.blt a nL) with
      | false => rw [hI] at hk; cases hk
      | true =>
        rw [hI, cond_true] at hk
        rw [Bool.and_eq_true] at hI
        subst ha
        exact xb_astore X hd hI.1 (Nat.le_of_ble_eq_true hI.2) hk g S
    · cases hk
  | astore_n i =>
    have hok : (xm_s cc (pc, .astore_n i, a, b, ts, v) rest 1 && Nat.beq a (i : Nat)) = true := hok
    rw [Bool.and_eq_true] at hok
    obtain ⟨h1, h2⟩ := hok
    obtain ⟨hd, g⟩ := gs h1
    have ha := Nat.eq_of_beq_eq_true h2
    replace hk : (match (generalizing := false) st with
      | w :: st => bif xm_isA w && Nat.blt a nL then ih rest (xm_set1 lv a w) st G E kc ks else false
      | _ => false) = true := hk
    split at hk
    · rename_i w st'
      cases hI : (xm_isA w && Nat.blt a nL) with
      | false => rw [hI] at hk; cases hk
      | true =>
        rw [hI, cond_true] at hk
        rw [Bool.and_eq_true] at hI
        exact xb_astore_n X hd ha.symm hI.1 (Nat.le_of_ble_eq_true hI.2) hk g S
    · cases hk
  | iinc i n =>
    have hok : (xm_s cc (pc, .iinc i n, a, b, ts, v) rest 3 && Nat.beq a i) = true := hok
    rw [Bool.and_eq_true] at hok
    obtain ⟨h1, h2⟩ := hok
    obtain ⟨hd, g⟩ := gs h1
    have ha := Nat.eq_of_beq_eq_true h2
    replace hk : (match xm_get lv a with
      | some w => bif Nat.blt a nL then xm_conc E w (fun E x => xm_frc (x + Int32.ofInt n) (fun z => ih rest (xm_set1 lv a (.int z)) st G E kc ks)) else false
      | none => false) = true := hk
    cases hw : xm_get lv a with
    | none => rw [hw] at hk; cases hk
    | some w =>
      rw [hw] at hk
      dsimp only at hk
      cases hI : Nat.blt a nL with
      | false => rw [hI] at hk; cases hk
      | true =>
        rw [hI, cond_true] at hk
        subst ha
        exact xb_iinc X hd hw (Nat.le_of_ble_eq_true hI) hk g S
  | iadd =>
    have h1 : xm_s cc (pc, .iadd, a, b, ts, v) rest 1 = true := hok
    obtain ⟨hd, g⟩ := gs h1
    exact xb_iadd X hd hk g S
  | isub =>
    have h1 : xm_s cc (pc, .isub, a, b, ts, v) rest 1 = true := hok
    obtain ⟨hd, g⟩ := gs h1
    exact xb_isub X hd hk g S
  | imul =>
    have h1 : xm_s cc (pc, .imul, a, b, ts, v) rest 1 = true := hok
    obtain ⟨hd, g⟩ := gs h1
    exact xb_imul X hd hk g S
  | iand =>
    have h1 : xm_s cc (pc, .iand, a, b, ts, v) rest 1 = true := hok
    obtain ⟨hd, g⟩ := gs h1
    exact xb_iand X hd hk g S
  | ior =>
    have h1 : xm_s cc (pc, .ior, a, b, ts, v) rest 1 = true := hok
    obtain ⟨hd, g⟩ := gs h1
    exact xb_ior X hd hk g S
  | ixor =>
    have h1 : xm_s cc (pc, .ixor, a, b, ts, v) rest 1 = true := hok
    obtain ⟨hd, g⟩ := gs h1
    exact xb_ixor X hd hk g S
  | ishl =>
    have h1 : xm_s cc (pc, .ishl, a, b, ts, v) rest 1 = true := hok
    obtain ⟨hd, g⟩ := gs h1
    exact xb_ishl X hd hk g S
  | ishr =>
    have h1 : xm_s cc (pc, .ishr, a, b, ts, v) rest 1 = true := hok
    obtain ⟨hd, g⟩ := gs h1
    exact xb_ishr X hd hk g S
  | iushr =>
    have h1 : xm_s cc (pc, .iushr, a, b, ts, v) rest 1 = true := hok
    obtain ⟨hd, g⟩ := gs h1
    exact xb_iushr X hd hk g S
  | idiv =>
    have h1 : xm_s cc (pc, .idiv, a, b, ts, v) rest 1 = true := hok
    obtain ⟨hd, g⟩ := gs h1
    exact xb_idiv X hd hk g S
  | irem =>
    have h1 : xm_s cc (pc, .irem, a, b, ts, v) rest 1 = true := hok
    obtain ⟨hd, g⟩ := gs h1
    exact xb_irem X hd hk g S
  | i2b =>
    have h1 : xm_s cc (pc, .i2b, a, b, ts, v) rest 1 = true := hok
    obtain ⟨hd, g⟩ := gs h1
    exact xb_i2b X hd hk g S
  | i2l =>
    have h1 : xm_s cc (pc, .i2l, a, b, ts, v) rest 1 = true := hok
    obtain ⟨hd, g⟩ := gs h1
    exact xb_i2l X hd hk g S
  | ladd =>
    have h1 : xm_s cc (pc, .ladd, a, b, ts, v) rest 1 = true := hok
    obtain ⟨hd, g⟩ := gs h1
    exact xb_ladd X hd hk g S
  | lsub =>
    have h1 : xm_s cc (pc, .lsub, a, b, ts, v) rest 1 = true := hok
    obtain ⟨hd, g⟩ := gs h1
    exact xb_lsub X hd hk g S
  | lmul =>
    have h1 : xm_s cc (pc, .lmul, a, b, ts, v) rest 1 = true := hok
    obtain ⟨hd, g⟩ := gs h1
    exact xb_lmul X hd hk g S
  | land =>
    have h1 : xm_s cc (pc, .land, a, b, ts, v) rest 1 = true := hok
    obtain ⟨hd, g⟩ := gs h1
    exact xb_land X hd hk g S
  | lor =>
    have h1 : xm_s cc (pc, .lor, a, b, ts, v) rest 1 = true := hok
    obtain ⟨hd, g⟩ := gs h1
    exact xb_lor X hd hk g S
  | ldiv =>
    have h1 : xm_s cc (pc, .ldiv, a, b, ts, v) rest 1 = true := hok
    obtain ⟨hd, g⟩ := gs h1
    exact xb_ldiv X hd hk g S
  | lrem =>
    have h1 : xm_s cc (pc, .lrem, a, b, ts, v) rest 1 = true := hok
    obtain ⟨hd, g⟩ := gs h1
    exact xb_lrem X hd hk g S
  | iaload =>
    have h1 : xm_s cc (pc, .iaload, a, b, ts, v) rest 1 = true := hok
    obtain ⟨hd, g⟩ := gs h1
    exact xb_iaload X hd hk g S
  | baload =>
    have h1 : xm_s cc (pc, .baload, a, b, ts, v) rest 1 = true := hok
    obtain ⟨hd, g⟩ := gs h1
    exact xb_baload X hd hk g S
  | laload =>
    have h1 : xm_s cc (pc, .laload, a, b, ts, v) rest 1 = true := hok
    obtain ⟨hd, g⟩ := gs h1
    exact xb_laload X hd hk g S
  | aaload =>
    have h1 : xm_s cc (pc, .aaload, a, b, ts, v) rest 1 = true := hok
    obtain ⟨hd, g⟩ := gs h1
    exact xb_aaload X hd hk g S
  | iastore =>
    have h1 : xm_s cc (pc, .iastore, a, b, ts, v) rest 1 = true := hok
    obtain ⟨hd, g⟩ := gs h1
    exact xb_iastore X hd hk g S
  | bastore =>
    have h1 : xm_s cc (pc, .bastore, a, b, ts, v) rest 1 = true := hok
    obtain ⟨hd, g⟩ := gs h1
    exact xb_bastore X hd hk g S
  | lastore =>
    have h1 : xm_s cc (pc, .lastore, a, b, ts, v) rest 1 = true := hok
    obtain ⟨hd, g⟩ := gs h1
    exact xb_lastore X hd hk g S
  | aastore =>
    have h1 : xm_s cc (pc, .aastore, a, b, ts, v) rest 1 = true := hok
    obtain ⟨hd, g⟩ := gs h1
    exact xb_aastore X hd hk g S
  | arraylength =>
    have h1 : xm_s cc (pc, .arraylength, a, b, ts, v) rest 1 = true := hok
    obtain ⟨hd, g⟩ := gs h1
    exact xb_arraylength X hd hk g S
  | ineg =>
    have h1 : xm_s cc (pc, .ineg, a, b, ts, v) rest 1 = true := hok
    obtain ⟨hd, g⟩ := gs h1
    replace hk : (match (generalizing := false) st with
      | w :: st => xm_conc E w (fun E x => xm_frc (-x) (fun z => ih rest lv (.int z :: st) G E kc ks))
      | _ => false) = true := hk
    split at hk
    · exact xb_ineg X hd hk g S
    · cases hk
  | l2i =>
    have h1 : xm_s cc (pc, .l2i, a, b, ts, v) rest 1 = true := hok
    obtain ⟨hd, g⟩ := gs h1
    replace hk : (match (generalizing := false) st with
      | .long x :: st => xm_frc x.toInt32 (fun z => ih rest lv (.int z :: st) G E kc ks)
      | _ => false) = true := hk
    split at hk
    · exact xb_l2i X hd hk g S
    · cases hk
  | lshl =>
    have h1 : xm_s cc (pc, .lshl, a, b, ts, v) rest 1 = true := hok
    obtain ⟨hd, g⟩ := gs h1
    replace hk : (match (generalizing := false) st with
      | .int y :: .long x :: st => ih rest lv (.long (x <<< (y.toInt64 &&& 63)) :: st) G E kc ks
      | _ => false) = true := hk
    split at hk
    · exact xb_lshl X hd hk g S
    · cases hk
  | lshr =>
    have h1 : xm_s cc (pc, .lshr, a, b, ts, v) rest 1 = true := hok
    obtain ⟨hd, g⟩ := gs h1
    replace hk : (match (generalizing := false) st with
      | .int y :: .long x :: st => ih rest lv (.long (x >>> (y.toInt64 &&& 63)) :: st) G E kc ks
      | _ => false) = true := hk
    split at hk
    · exact xb_lshr X hd hk g S
    · cases hk
  | lcmp =>
    have h1 : xm_s cc (pc, .lcmp, a, b, ts, v) rest 1 = true := hok
    obtain ⟨hd, g⟩ := gs h1
    replace hk : (match (generalizing := false) st with
      | w :: u :: st => xm_cmpL E u w (fun E s => ih rest lv (.int (Int32.ofInt s) :: st) G E kc ks)
      | _ => false) = true := hk
    split at hk
    · exact xb_lcmp X hd hk g S
    · cases hk
  | dup =>
    have h1 : xm_s cc (pc, .dup, a, b, ts, v) rest 1 = true := hok
    obtain ⟨hd, g⟩ := gs h1
    replace hk : (match (generalizing := false) st with
      | w :: st => bif xm_cat1 w then ih rest lv (w :: w :: st) G E kc ks else false
      | _ => false) = true := hk
    split at hk
    · rename_i w st'
      cases hI : xm_cat1 w with
      | false => rw [hI] at hk; cases hk
      | true =>
        rw [hI, cond_true] at hk
        exact xb_dup X hd hI hk g S
    · cases hk
  | pop =>
    have h1 : xm_s cc (pc, .pop, a, b, ts, v) rest 1 = true := hok
    obtain ⟨hd, g⟩ := gs h1
    replace hk : (match (generalizing := false) st with
      | w :: st => bif xm_cat1 w then ih rest lv st G E kc ks else false
      | _ => false) = true := hk
    split at hk
    · rename_i w st'
      cases hI : xm_cat1 w with
      | false => rw [hI] at hk; cases hk
      | true =>
        rw [hI, cond_true] at hk
        exact xb_pop X hd hI hk g S
    · cases hk
  | dup2 =>
    have h1 : xm_s cc (pc, .dup2, a, b, ts, v) rest 1 = true := hok
    obtain ⟨hd, g⟩ := gs h1
    replace hk : (match (generalizing := false) st with
      | w :: u :: st => bif xm_cat1 w && xm_cat1 u then ih rest lv (w :: u :: w :: u :: st) G E kc ks else false
      | _ => false) = true := hk
    split at hk
    · rename_i w u st'
      cases hI : (xm_cat1 w && xm_cat1 u) with
      | false => rw [hI] at hk; cases hk
      | true =>
        rw [hI, cond_true] at hk
        rw [Bool.and_eq_true] at hI
        exact xb_dup2 X hd hI.1 hI.2 hk g S
    · cases hk
  | goto off =>
    have hok : (xm_dc cc (pc, .goto off, a, b, ts, v) 3 && xm_tg full a pc off) = true := hok
    rw [Bool.and_eq_true] at hok
    obtain ⟨tgt, ht, gt⟩ := gj hok.2
    have hd : decode cc pc = .ok (.goto off, 3) := of_decide_eq_true hok.1
    exact xb_goto X hd ht hk gt S
  | ifCond cnd off =>
    have hok : (xm_s cc (pc, .ifCond cnd off, a, b, ts, v) rest 3 && xm_tg full a pc off) = true := hok
    rw [Bool.and_eq_true] at hok
    obtain ⟨h1, h2⟩ := hok
    obtain ⟨hd, g⟩ := gs h1
    obtain ⟨tgt, ht, gt⟩ := gj h2
    replace hk : (match (generalizing := false) st with
      | w :: st => xm_cmpI E w (.int 0) (fun E s => bif xm_holds cnd s then ih (xm_drop a full) lv st G E kc ks else ih rest lv st G E kc ks)
      | _ => false) = true := hk
    split at hk
    · cases cnd with
      | eq => exact xb_ifCond_eq X hd ht hk gt g S
      | ne => exact xb_ifCond_ne X hd ht hk gt g S
      | lt => exact xb_ifCond_lt X hd ht hk gt g S
      | ge => exact xb_ifCond_ge X hd ht hk gt g S
      | gt => exact xb_ifCond_gt X hd ht hk gt g S
      | le => exact xb_ifCond_le X hd ht hk gt g S
    · cases hk
  | if_icmp cnd off =>
    have hok : (xm_s cc (pc, .if_icmp cnd off, a, b, ts, v) rest 3 && xm_tg full a pc off) = true := hok
    rw [Bool.and_eq_true] at hok
    obtain ⟨h1, h2⟩ := hok
    obtain ⟨hd, g⟩ := gs h1
    obtain ⟨tgt, ht, gt⟩ := gj h2
    replace hk : (match (generalizing := false) st with
      | w :: u :: st => xm_cmpI E u w (fun E s => bif xm_holds cnd s then ih (xm_drop a full) lv st G E kc ks else ih rest lv st G E kc ks)
      | _ => false) = true := hk
    split at hk
    · cases cnd with
      | eq => exact xb_if_icmp_eq X hd ht hk gt g S
      | ne => exact xb_if_icmp_ne X hd ht hk gt g S
      | lt => exact xb_if_icmp_lt X hd ht hk gt g S
      | ge => exact xb_if_icmp_ge X hd ht hk gt g S
      | gt => exact xb_if_icmp_gt X hd ht hk gt g S
      | le => exact xb_if_icmp_le X hd ht hk gt g S
    · cases hk
  | ifnull off =>
    have hok : (xm_s cc (pc, .ifnull off, a, b, ts, v) rest 3 && xm_tg full a pc off) = true := hok
    rw [Bool.and_eq_true] at hok
    obtain ⟨h1, h2⟩ := hok
    obtain ⟨hd, g⟩ := gs h1
    obtain ⟨tgt, ht, gt⟩ := gj h2
    replace hk : (match (generalizing := false) st with
      | .ref _ :: st => ih rest lv st G E kc ks
      | .null :: st => ih (xm_drop a full) lv st G E kc ks
      | _ => false) = true := hk
    split at hk
    · exact xb_ifnull_r X hd ht hk gt g S
    · exact xb_ifnull_n X hd ht hk gt g S
    · cases hk
  | ifnonnull off =>
    have hok : (xm_s cc (pc, .ifnonnull off, a, b, ts, v) rest 3 && xm_tg full a pc off) = true := hok
    rw [Bool.and_eq_true] at hok
    obtain ⟨h1, h2⟩ := hok
    obtain ⟨hd, g⟩ := gs h1
    obtain ⟨tgt, ht, gt⟩ := gj h2
    replace hk : (match (generalizing := false) st with
      | .ref _ :: st => ih (xm_drop a full) lv st G E kc ks
      | .null :: st => ih rest lv st G E kc ks
      | _ => false) = true := hk
    split at hk
    · exact xb_ifnonnull_r X hd ht hk gt g S
    · exact xb_ifnonnull_n X hd ht hk gt g S
    · cases hk
  | tableswitch dd lo hi offs =>
    have hok : (xm_dw cc (pc, .tableswitch dd lo hi offs, a, b, ts, v) && (xm_tg full a pc dd && (xm_tgs full pc offs.toList ts && decide (hi + 1 = lo + Int.ofNat (xm_len ts))))) = true := hok
    simp only [Bool.and_eq_true, decide_eq_true_eq] at hok
    obtain ⟨h1, h2, h3, h4⟩ := hok
    rw [xl_len] at h4
    obtain ⟨len, hd⟩ := xs_dw h1
    replace hk : (match (generalizing := false) st with
      | w :: st => xm_table lo a ts w E (fun E t => ih (xm_drop t full) lv st G E kc ks)
      | _ => false) = true := hk
    split at hk
    · exact xb_tableswitch X hd h2 h3 h4 hk hjump S
    · cases hk
  | lookupswitch dd ps =>
    have hok : (xm_dw cc (pc, .lookupswitch dd ps, a, b, ts, v) && (xm_tg full a pc dd && (xm_tgs full pc (ps.toList.map (fun q => q.2)) ts && (ps.toList.zip (ps.toList.drop 1)).all (fun (a, next) => a.1 < next.1)))) = true := hok
    rw [Bool.and_eq_true, Bool.and_eq_true, Bool.and_eq_true] at hok
    obtain ⟨h1, h2, h3, h4⟩ := hok
    obtain ⟨len, hd⟩ := xs_dw h1
    replace hk : (match (generalizing := false) st with
      | .int x :: st => ih (xm_drop (xm_look a ps.toList ts x.toInt) full) lv st G E kc ks
      | _ => false) = true := hk
    split at hk
    · exact xb_lookupswitch X hd h2 h3 h4 hk hjump S
    · cases hk
  | newarray t =>
    have hok : (xm_s cc (pc, .newarray t, a, b, ts, v) rest 2 && (Nat.beq a (xm_atyp t) && Nat.ble 100 a)) = true := hok
    rw [Bool.and_eq_true] at hok
    obtain ⟨h1, h2⟩ := hok
    obtain ⟨hd, g⟩ := gs h1
    rw [Bool.and_eq_true] at h2
    exact xb_newarray X hd (Nat.eq_of_beq_eq_true h2.1) (Nat.le_of_ble_eq_true h2.2) hR.2.2 hk g S
  | anewarray i =>
    have hok : (xm_s cc (pc, .anewarray i, a, b, ts, v) rest 3 && (match xm_ofA a with
      | some c => xm_at2 (xm_cl o) (i, c)
      | none => false)) = true := hok
    rw [Bool.and_eq_true] at hok
    obtain ⟨h1, h2⟩ := hok
    obtain ⟨hd, g⟩ := gs h1
    exact xb_anewarray X hd h2 hR.2.2 hk g S
  | new i =>
    have hok : (xm_s cc (pc, .new i, a, b, ts, v) rest 3 && xm_at2 (xm_cl o) (i, a)) = true := hok
    rw [Bool.and_eq_true] at hok
    obtain ⟨h1, h2⟩ := hok
    obtain ⟨hd, g⟩ := gs h1
    replace hk : (match xm_nth xm_cls a with
      | some (_, _, n) => bif Nat.ble (kc + 1) mc && Nat.ble (ks + n) ms then ih rest lv (.ref G.1 :: st) (xm_push G (a, xm_def a)) E (kc + 1) (ks + n) else false
      | none => false) = true := hk
    rw [xl_nth] at hk
    cases hr : xm_cls[a]? with
    | none => rw [hr] at hk; cases hk
    | some r =>
      rw [hr] at hk
      obtain ⟨C, TT, NN⟩ := r
      dsimp only at hk
      cases hc : (Nat.ble (kc + 1) mc && Nat.ble (ks + NN) ms) with
      | false => rw [hc] at hk; cases hk
      | true =>
        rw [hc, cond_true] at hk
        rw [Bool.and_eq_true] at hc
        exact xb_new X hd h2 hr hR.2.2 (Nat.le_of_ble_eq_true hc.1) (Nat.le_of_ble_eq_true hc.2) hk g S
  | getfield i =>
    have hok : (xm_s cc (pc, .getfield i, a, b, ts, v) rest 3 && xm_at3 (xm_fl o) (i, a, b)) = true := hok
    rw [Bool.and_eq_true] at hok
    obtain ⟨h1, h2⟩ := hok
    obtain ⟨hd, g⟩ := gs h1
    exact xb_getfield X hd h2 hk g S
  | putfield i =>
    have hok : (xm_s cc (pc, .putfield i, a, b, ts, v) rest 3 && (xm_at3 (xm_fl o) (i, a, b) && (!(xm_fin a b) || (ini && xm_mine a o)))) = true := hok
    rw [Bool.and_eq_true] at hok
    obtain ⟨h1, h2⟩ := hok
    obtain ⟨hd, g⟩ := gs h1
    rw [Bool.and_eq_true] at h2
    replace hk : (match (generalizing := false) st with
      | w :: .ref j :: st => (match xm_hget G j with
        | some (t, vs) => bif Nat.beq t a && (Nat.ble 7 j && (xm_fit (xm_ty t b) w && Nat.blt b (xm_len vs))) then ih rest lv st (xm_hput G j (t, xm_put w vs b)) E kc ks else false
        | none => false)
      | _ => false) = true := hk
    split at hk
    · rename_i w j st'
      cases h0 : xm_hget G j with
      | none => rw [h0] at hk; cases hk
      | some q =>
        obtain ⟨t, vs⟩ := q
        rw [h0] at hk
        dsimp only at hk
        cases hc : (Nat.beq t a && (Nat.ble 7 j && (xm_fit (xm_ty t b) w && Nat.blt b (xm_len vs)))) with
        | false => rw [hc] at hk; cases hk
        | true =>
          rw [hc, cond_true, xl_put] at hk
          rw [Bool.and_eq_true, Bool.and_eq_true, Bool.and_eq_true, xl_len] at hc
          exact xb_putfield X hd h2.1 hini h2.2 h0 (Nat.eq_of_beq_eq_true hc.1) (Nat.le_of_ble_eq_true hc.2.1) hc.2.2.1 (Nat.le_of_ble_eq_true hc.2.2.2) hk g S
    · cases hk
  | invokevirtual i =>
    have hok : (xm_s cc (pc, .invokevirtual i, a, b, ts, v) rest 3 && xm_at3 (xm_ml o) (i, a, 0)) = true := hok
    rw [Bool.and_eq_true] at hok
    obtain ⟨h1, h2⟩ := hok
    obtain ⟨hd, g⟩ := gs h1
    exact xb_call (b := 0) X (Or.inl rfl) hd h2 hR hC hk g S
  | invokestatic i =>
    have hok : (xm_s cc (pc, .invokestatic i, a, b, ts, v) rest 3 && (bif Nat.beq a 1001 then xm_at3 (xm_ml o) (i, 1001, 0) else bif Nat.beq a 1002 then true else bif Nat.beq b 3 then xm_at3 (xm_ml o) (i, a, 3) else xm_at3 (xm_ml o) (i, a, 1))) = true := hok
    rw [Bool.and_eq_true] at hok
    obtain ⟨h1, h2⟩ := hok
    obtain ⟨hd, g⟩ := gs h1
    replace hk : (bif Nat.beq a 1001 then xm_acopy st G (fun st G => ih rest lv st G E kc ks) else bif Nat.beq b 3 then xm_call call mc ms a 3 st G E kc ks (fun st G E kc ks => ih rest lv st G E kc ks) else xm_call call mc ms a 1 st G E kc ks (fun st G E kc ks => ih rest lv st G E kc ks)) = true := hk
    cases c1 : Nat.beq a 1001 with
    | true =>
      rw [c1, cond_true] at hk h2
      exact xb_arraycopy X hd h2 ⟨by omega, by omega⟩ hk g S
    | false =>
      rw [c1, cond_false] at hk h2
      cases c0 : Nat.beq a 1002 with
      | true =>
        have c0 := Nat.eq_of_beq_eq_true c0
        subst c0
        have hn : ∀ bb, xm_call call mc ms 1002 bb st G E kc ks (fun st G E kc ks => ih rest lv st G E kc ks) = false := by
          intro bb
          unfold xm_call
          rw [xl_nth, List.getElem?_eq_none (by rw [xk_len]; decide)]
        rw [hn, hn] at hk
        cases hb3 : Nat.beq b 3 with
        | true => rw [hb3] at hk; cases hk
        | false => rw [hb3] at hk; cases hk
      | false =>
      rw [c0, cond_false] at h2
      cases c2 : Nat.beq b 3 with
      | true =>
        rw [c2, cond_true] at hk h2
        exact xb_call (b := 3) X (Or.inr (Or.inr (Or.inr (Or.inl rfl)))) hd h2 hR hC hk g S
      | false =>
        rw [c2, cond_false] at hk h2
        exact xb_call (b := 1) X (Or.inr (Or.inl rfl)) hd h2 hR hC hk g S
  | invokespecial i =>
    have hok : (xm_s cc (pc, .invokespecial i, a, b, ts, v) rest 3 && (bif Nat.beq a 1000 then xm_at3 (xm_ml o) (i, 1000, 0) else bif Nat.beq b 4 then xm_at3 (xm_ml o) (i, a, 4) else xm_at3 (xm_ml o) (i, a, 2))) = true := hok
    rw [Bool.and_eq_true] at hok
    obtain ⟨h1, h2⟩ := hok
    obtain ⟨hd, g⟩ := gs h1
    replace hk : (bif Nat.beq a 1000 then (match (generalizing := false) st with
        | .ref _ :: st => bif Nat.ble (xm_cats st) 8 then ih rest lv st G E kc ks else false
        | _ => false)
      else bif Nat.beq b 4 then xm_call call mc ms a 4 st G E kc ks (fun st G E kc ks => ih rest lv st G E kc ks) else xm_call call mc ms a 2 st G E kc ks (fun st G E kc ks => ih rest lv st G E kc ks)) = true := hk
    cases c1 : Nat.beq a 1000 with
    | true =>
      rw [c1, cond_true] at hk h2
      split at hk
      · rename_i j st'
        cases c2 : Nat.ble (xm_cats st') 8 with
        | false => rw [c2] at hk; cases hk
        | true =>
          rw [c2, cond_true] at hk
          have c2 : xm_cats st' ≤ 8 := Nat.le_of_ble_eq_true c2
          obtain ⟨q, hq, e1, e2, e3⟩ := xs_at3 h2
          have h4 := List.all_eq_true.mp (xk_ml o X.2.2.2.2.2.2) q hq
          unfold xm_mlok at h4
          rw [e1, e2] at h4
          have h4 : xm_w q.2.2.2 (.methodLink (xm_own o) i objectInit) = true := h4
          refine W.objInit X.1 X.2.1 X.2.2.2.1 (xs_word X h4) (xs_word X xk_a8) (X.2.2.2.2.1 _ xk_oc) rfl (by rw [X.2.2.1]; exact S.2.2.1.1) (rest := st'.map (xs_cv Z)) rfl hd (by omega) ?_ (g lv st' G E kc ks hk H locs ls S)
          rw [xs_cats]
          show 2 * 0 + xm_cats st' + 12 ≤ R.locals
          omega
      · cases hk
    | false =>
      rw [c1, cond_false] at hk h2
      cases c2 : Nat.beq b 4 with
      | true =>
        rw [c2, cond_true] at hk h2
        exact xb_call (b := 4) X (Or.inr (Or.inr (Or.inr (Or.inr rfl)))) hd h2 hR hC hk g S
      | false =>
        rw [c2, cond_false] at hk h2
        exact xb_call (b := 2) X (Or.inr (Or.inr (Or.inl rfl))) hd h2 hR hC hk g S
  | ireturn =>
    have hd : decode cc pc = .ok (.ireturn, 1) := of_decide_eq_true hok
    replace hk : (match (generalizing := false) st with
      | [w] => bif xm_isI w && (xm_rok ret w && (Nat.ble kc mc && Nat.ble ks ms)) then Q (some w) G E else false
      | _ => false) = true := hk
    split at hk
    · rename_i w
      cases hc : (xm_isI w && (xm_rok ret w && (Nat.ble kc mc && Nat.ble ks ms))) with
      | false => rw [hc] at hk; cases hk
      | true =>
        rw [hc, cond_true] at hk
        rw [Bool.and_eq_true, Bool.and_eq_true, Bool.and_eq_true] at hc
        exact hret pc .ireturn (some w) [w] kc ks lv G E H locs ls hd (Or.inl ⟨rfl, w, rfl, rfl, hc.1, hc.2.1⟩) hk (Nat.le_of_ble_eq_true hc.2.2.1) (Nat.le_of_ble_eq_true hc.2.2.2) S
    · cases hk
  | lreturn =>
    have hd : decode cc pc = .ok (.lreturn, 1) := of_decide_eq_true hok
    replace hk : (match (generalizing := false) st with
      | [w] => bif xm_isL w && (xm_rok ret w && (Nat.ble kc mc && Nat.ble ks ms)) then Q (some w) G E else false
      | _ => false) = true := hk
    split at hk
    · rename_i w
      cases hc : (xm_isL w && (xm_rok ret w && (Nat.ble kc mc && Nat.ble ks ms))) with
      | false => rw [hc] at hk; cases hk
      | true =>
        rw [hc, cond_true] at hk
        rw [Bool.and_eq_true, Bool.and_eq_true, Bool.and_eq_true] at hc
        exact hret pc .lreturn (some w) [w] kc ks lv G E H locs ls hd (Or.inr <| Or.inl ⟨rfl, w, rfl, rfl, hc.1, hc.2.1⟩) hk (Nat.le_of_ble_eq_true hc.2.2.1) (Nat.le_of_ble_eq_true hc.2.2.2) S
    · cases hk
  | areturn =>
    have hd : decode cc pc = .ok (.areturn, 1) := of_decide_eq_true hok
    replace hk : (match (generalizing := false) st with
      | [w] => bif xm_isA w && (xm_rok ret w && (Nat.ble kc mc && Nat.ble ks ms)) then Q (some w) G E else false
      | _ => false) = true := hk
    split at hk
    · rename_i w
      cases hc : (xm_isA w && (xm_rok ret w && (Nat.ble kc mc && Nat.ble ks ms))) with
      | false => rw [hc] at hk; cases hk
      | true =>
        rw [hc, cond_true] at hk
        rw [Bool.and_eq_true, Bool.and_eq_true, Bool.and_eq_true] at hc
        exact hret pc .areturn (some w) [w] kc ks lv G E H locs ls hd (Or.inr <| Or.inr <| Or.inl ⟨rfl, w, rfl, rfl, hc.1, hc.2.1⟩) hk (Nat.le_of_ble_eq_true hc.2.2.1) (Nat.le_of_ble_eq_true hc.2.2.2) S
    · cases hk
  | return_ =>
    have hd : decode cc pc = .ok (.return_, 1) := of_decide_eq_true hok
    replace hk : (match (generalizing := false) st with
      | [] => bif ret.isNone && (Nat.ble kc mc && Nat.ble ks ms) then Q none G E else false
      | _ => false) = true := hk
    split at hk
    · cases hc : (ret.isNone && (Nat.ble kc mc && Nat.ble ks ms)) with
      | false => rw [hc] at hk; cases hk
      | true =>
        rw [hc, cond_true] at hk
        rw [Bool.and_eq_true, Bool.and_eq_true] at hc
        exact hret pc .return_ none [] kc ks lv G E H locs ls hd (Or.inr <| Or.inr <| Or.inr ⟨rfl, rfl, rfl, Option.isNone_iff_eq_none.mp hc.1⟩) hk (Nat.le_of_ble_eq_true hc.2.1) (Nat.le_of_ble_eq_true hc.2.2) S
    · cases hk
  | _ =>
    replace hk : false = true := hk
    cases hk
end XI
end
section
/-! a run of the machine, a run of the JVM; the contracts of all methods -/
theorem xl_okdrop {o : Nat} {ini : Bool} {cc : ByteArray} {full : List xm_E} : ∀ (n : Nat) (suf : List xm_E), xm_okC o ini cc full suf = true → xm_okC o ini cc full (xm_drop n suf) = true
  | 0, suf, h => h
  | n + 1, [], h => h
  | n + 1, e :: suf, h => by
    have h1 : (xm_okE o ini cc full suf e && xm_okC o ini cc full suf) = true := h
    rw [Bool.and_eq_true] at h1
    show xm_okC o ini cc full (xm_drop n suf) = true
    exact xl_okdrop n suf h1.2
theorem xs_slots (vs : List Value) : (lg_sl vs).length = (vs.map fun v => v.category).sum := by
  induction vs with
  | nil => rfl
  | cons v vs ih =>
    have h : lg_sl (v :: vs) = lg_sl [v] ++ lg_sl vs := by simp [lg_sl]
    rw [h, List.length_append, ih, List.map_cons, List.sum_cons]
    congr 1
    cases v <;> rfl
section XJ
variable {p : Program} {l : Launch} {e : Env} {R : Room} {s : State} {m : MethodId} {args : Array Value} {below : List Frame} {meth : Method} {c : Code} {Qf : State → Prop} {cc : ByteArray} {nL o : Nat} {Z : xs_Z} {mc ms : Nat}
theorem xs_run (X : xs_Cx p s m args c cc nL o Z) {call : xm_C} {d : Nat} {full : List xm_E} {ini : Bool} {ret : Option FieldType} {Q : xm_Q} (hfull : xm_okC o ini cc full full = true) (hini : ini = true → meth.name = "<init>") (hR : d + 1 ≤ R.frames ∧ 64 * (d + 1) ≤ R.locals ∧ mc ≤ R.cells ∧ ms ≤ R.slots) (hC : xs_CH l Z d call) (hret : xs_RH p l e R s m args below meth c Qf cc nL mc ms ret Q Z) : ∀ (f : Nat) (suf : List xm_E), xm_okC o ini cc full suf = true → ∀ e1 rest', suf = e1 :: rest' → xs_good p l e R s m args below meth c Qf nL Z (xm_run call full nL mc ms ret Q f suf) e1.1
  | 0, suf, _, e1, rest', _ => by
    intro lv st G E kc ks hk
    have hk : false = true := hk
    cases hk
  | f + 1, suf, hok, e1, rest', he => by
    intro lv st G E kc ks hk H locs ls S
    subst he
    have hk : xm_body call full nL mc ms ret Q (xm_run call full nL mc ms ret Q f) e1 rest' lv st G E kc ks = true := hk
    have hok : (xm_okE o ini cc full rest' e1 && xm_okC o ini cc full rest') = true := hok
    rw [Bool.and_eq_true] at hok
    exact xs_body X hok.1 hini hR hC (fun e2 r2 h2 => xs_run X hfull hini hR hC hret f rest' hok.2 e2 r2 h2) (fun t e2 r2 h2 => xs_run X hfull hini hR hC hret f (xm_drop t full) (xl_okdrop t full hfull) e2 r2 h2) hret hk S
end XJ
theorem xs_okM {r : xm_M} (h : xm_okM r = true) : r.1 < 17 ∧ r.2.1.cls = xm_own r.1 ∧ xm_okC r.1 (decide (r.2.1.name = "<init>")) r.2.2.1 r.2.2.2.2.2.2.2.2 r.2.2.2.2.2.2.2.2 = true := by
  unfold xm_okM at h
  rw [Bool.and_eq_true, Bool.and_eq_true, decide_eq_true_eq] at h
  exact ⟨Nat.le_of_ble_eq_true h.1, h.2.1, h.2.2⟩
/-- a return of a method -/
theorem xs_rets {p : Program} {l : Launch} {e : Env} {R : Room} {s : State} {m : MethodId} {args : Array Value} {below : List Frame} {meth : Method} {c : Code} {cc : ByteArray} {nL mc ms : Nat} {ret : Option FieldType} {Q : xm_Q} {Z : xs_Z} (hx : p.tables.exec = Jvm.exec) (hb : c.code = cc) (hr : meth.sig.returnType = ret) (hlocks : meth.locks = false) : xs_RH p l e R s m args below meth c (MQ below (xs_Qc Z Q) args s mc ms (fun q => xs_b Z ≤ q)) cc nL mc ms ret Q Z := by
  intro pc i v st1 kc ks lv G E H locs ls hd hrt hQ h1 h2 S
  refine W.widen (k := mc) (n := ms) h1 h2 ?_
  rcases hrt with ⟨rfl, w, rfl, rfl, a1, a2⟩ | ⟨rfl, w, rfl, rfl, a1, a2⟩ | ⟨rfl, w, rfl, rfl, a1, a2⟩ | ⟨rfl, rfl, rfl, a1⟩
  · cases ret with
    | none => cases a2
    | some ty =>
      have a2 : xm_fit ty w = true := a2
      obtain ⟨x, hw⟩ := xs_I (Z := Z) a1
      have hn := (xs_fit (Z := Z) a2).1
      rw [List.map_cons, hw]
      rw [hw] at hn
      exact W.zret hx hb hr hn (fun t ht hW => ⟨some w, G, E, hQ, S.1, by rw [Option.map_some, hw], by rw [ht]; exact S.2.1⟩) S.2.2.2 hd hlocks
  · cases ret with
    | none => cases a2
    | some ty =>
      have a2 : xm_fit ty w = true := a2
      obtain ⟨x, hw⟩ := xs_L (Z := Z) a1
      have hty : ty = .long := by
        have hf := (xs_fit (Z := Z) a2).2
        rw [hw] at hf
        cases ty <;> first | rfl | cases hf
      subst hty
      rw [List.map_cons, hw]
      exact W.lret hx hb hr (fun t ht hW => ⟨some w, G, E, hQ, S.1, by rw [Option.map_some, hw], by rw [ht]; exact S.2.1⟩) S.2.2.2 hd hlocks
  · cases ret with
    | none => cases a2
    | some ty =>
      have a2 : xm_fit ty w = true := a2
      have hty : (∃ n, ty = .object n) ∨ ∃ t, ty = .array t := by
        have hf := (xs_fit (Z := Z) a2).2
        rcases xs_A (Z := Z) a1 with ⟨-, hw⟩ | ⟨j, -, hw⟩
        · rw [hw] at hf
          cases ty <;> first | exact Or.inl ⟨_, rfl⟩ | exact Or.inr ⟨_, rfl⟩ | cases hf
        · rw [hw] at hf
          cases ty <;> first | exact Or.inl ⟨_, rfl⟩ | exact Or.inr ⟨_, rfl⟩ | cases hf
      have hv : xs_cv Z w = .null ∨ ∃ a, xs_cv Z w = .ref a := by
        rcases xs_A (Z := Z) a1 with ⟨-, hw⟩ | ⟨j, -, hw⟩
        · exact Or.inl hw
        · exact Or.inr ⟨_, hw⟩
      exact W.aret hx hb hr hty hv (fun t ht hW => ⟨some w, G, E, hQ, S.1, rfl, by rw [ht]; exact S.2.1⟩) S.2.2.2 hd hlocks
  · subst a1
    exact W.vret hx hb hr (fun t ht hW => ⟨none, G, E, hQ, S.1, rfl, by rw [ht]; exact S.2.1⟩) S.2.2.2 hd hlocks
theorem xs_exec (l : Launch) (Z : xs_Z) : ∀ d, xs_CH l Z d (xm_exec d)
  | 0 => by
    intro a r _ _ As G E Q hk
    have hk : false = true := hk
    cases hk
  | d + 1 => by
    intro a r ha hr As G E Q hk hsat
    have hC := xs_exec l Z d
    obtain ⟨f, -, hm⟩ := xs_mall ha hr
    obtain ⟨w1, w2, w3, w4, w5, w6, w7, w8, w9⟩ := xs_mok hm
    obtain ⟨k1, k2, k3⟩ := xs_okM (xk_okall r (List.mem_of_getElem? hr))
    have hk : (match xm_nth xm_mtab a with
      | some (_, _, _, nL, ret, _, mc, ms, c) => bif xm_nx c 0 && Nat.ble (xm_cats As) nL then xm_run (xm_exec d) c nL mc ms ret Q 1000000 c (lv_args 0 As) [] G E 0 0 else false
      | none => false) = true := hk
    rw [xl_nth, hr] at hk
    obtain ⟨ro, ry, rb, rL, rr, rn, rmc, rms, rcode⟩ := r
    dsimp only at hk w1 w5 w8 w9 k1 k2 k3
    cases hc : (xm_nx rcode 0 && Nat.ble (xm_cats As) rL) with
    | false => rw [hc] at hk; cases hk
    | true =>
      rw [hc, cond_true] at hk
      rw [Bool.and_eq_true] at hc
      have hcat : xm_cats As ≤ rL := Nat.le_of_ble_eq_true hc.2
      refine Met.ofW (cc := rb) (maxL := rL) (ret := rr) w5 rfl ?_
      intro p e s m args below meth c s₁ B hml hv
      obtain ⟨rfl, hHW, hKW⟩ := hv
      have hx := B.exec
      have hb := B.bytes
      have hr2 := B.returns
      have hts := atoms_spec (ws := xs_ws (ro, ry, rb, rL, rr, rn, rmc, rms, rcode)) B.pre
      have hown : s.vm.findClass ry.cls = some m.cls := findClass_of_methodNamed B.named
      have hlocks := B.notSynchronized
      have hin : meth.name = ry.name := (name_of_methodNamed B.named B.method).1
      have X : xs_Cx p s m (As.map (xs_cv Z)).toArray c rb rL ro Z := ⟨hx, hb, hml, by rw [← k2]; exact hown, fun w hw => hts w (List.mem_cons_of_mem _ hw), hKW, k1⟩
      have hl := lv_entry (As.map (xs_cv Z)) (n := rL) (by rw [xs_slots, xs_cats]; exact hcat)
      rw [lg_entry_eq]
      generalize (lg_sl (As.map (xs_cv Z)) ++ List.replicate (rL - (lg_sl (As.map (xs_cv Z))).length) Slot.unset).toArray = ls at hl ⊢
      have hnx := hc.1
      unfold xm_nx at hnx
      split at hnx
      · rename_i e1 rest'
        have h0 := Nat.eq_of_beq_eq_true hnx
        have hg := xs_run (R := xs_rm (d + 1) (ro, ry, rb, rL, rr, rn, rmc, rms, e1 :: rest')) (l := l) (e := e) (below := below) (meth := meth) (mc := rmc) (ms := rms) X k3 (fun hi => by rw [hin]; exact of_decide_eq_true hi) ⟨Nat.le_refl _, Nat.le_refl _, Nat.le_refl _, Nat.le_refl _⟩ hC (xs_rets (Q := Q) hx hb hr2 hlocks) 1000000 _ k3 e1 rest' rfl
        have hW := hg (lv_args 0 As) [] G E 0 0 hk s.heap [] ls ⟨hsat, hHW, by rw [xs_args]; exact hl, fun q hq => by cases hq⟩
        rw [h0] at hW
        exact hW
      · cases hnx
end
section
/-! the machine's steps as equations -/
section XK
variable {call : xm_C} {full rest : List xm_E} {nL mc ms : Nat} {ret : Option FieldType} {Q : xm_Q} {ih : List xm_E → xm_K} {pc a b : Nat} {ts : List Nat} {v : Value} {lv : xm_L} {st : List Value} {G : xm_H} {E : xm_R} {kc ks : Nat}
theorem xr_cons {f : Nat} {e : xm_E} : xm_run call full nL mc ms ret Q (f + 1) (e :: rest) lv st G E kc ks = xm_body call full nL mc ms ret Q (xm_run call full nL mc ms ret Q f) e rest lv st G E kc ks := rfl
theorem xe_iconst {n : Int} : xm_body call full nL mc ms ret Q ih (pc, .iconst n, a, b, ts, v) rest lv st G E kc ks = (ih rest lv (v :: st) G E kc ks) := rfl
theorem xe_bipush {n : Int} : xm_body call full nL mc ms ret Q ih (pc, .bipush n, a, b, ts, v) rest lv st G E kc ks = (ih rest lv (v :: st) G E kc ks) := rfl
theorem xe_sipush {n : Int} : xm_body call full nL mc ms ret Q ih (pc, .sipush n, a, b, ts, v) rest lv st G E kc ks = (ih rest lv (v :: st) G E kc ks) := rfl
theorem xe_lconst {n : Fin 2} : xm_body call full nL mc ms ret Q ih (pc, .lconst n, a, b, ts, v) rest lv st G E kc ks = (ih rest lv (v :: st) G E kc ks) := rfl
theorem xe_aconst_null  : xm_body call full nL mc ms ret Q ih (pc, .aconst_null, a, b, ts, v) rest lv st G E kc ks = (ih rest lv (v :: st) G E kc ks) := rfl
theorem xe_ldc {i : Nat} : xm_body call full nL mc ms ret Q ih (pc, .ldc i, a, b, ts, v) rest lv st G E kc ks = (ih rest lv (v :: st) G E kc ks) := rfl
theorem xe_ldc_w {i : Nat} : xm_body call full nL mc ms ret Q ih (pc, .ldc_w i, a, b, ts, v) rest lv st G E kc ks = (ih rest lv (v :: st) G E kc ks) := rfl
theorem xe_ldc2_w {i : Nat} : xm_body call full nL mc ms ret Q ih (pc, .ldc2_w i, a, b, ts, v) rest lv st G E kc ks = (ih rest lv (v :: st) G E kc ks) := rfl
theorem xe_iload {i : Nat} : xm_body call full nL mc ms ret Q ih (pc, .iload i, a, b, ts, v) rest lv st G E kc ks = ((match xm_get lv a with
    | some w => bif xm_isI w then ih rest lv (w :: st) G E kc ks else false
    | none => false)) := rfl
theorem xe_iload_n {i : Fin 4} : xm_body call full nL mc ms ret Q ih (pc, .iload_n i, a, b, ts, v) rest lv st G E kc ks = ((match xm_get lv a with
    | some w => bif xm_isI w then ih rest lv (w :: st) G E kc ks else false
    | none => false)) := rfl
theorem xe_lload {i : Nat} : xm_body call full nL mc ms ret Q ih (pc, .lload i, a, b, ts, v) rest lv st G E kc ks = ((match xm_get lv a with
    | some w => bif xm_isL w then ih rest lv (w :: st) G E kc ks else false
    | none => false)) := rfl
theorem xe_lload_n {i : Fin 4} : xm_body call full nL mc ms ret Q ih (pc, .lload_n i, a, b, ts, v) rest lv st G E kc ks = ((match xm_get lv a with
    | some w => bif xm_isL w then ih rest lv (w :: st) G E kc ks else false
    | none => false)) := rfl
theorem xe_aload {i : Nat} : xm_body call full nL mc ms ret Q ih (pc, .aload i, a, b, ts, v) rest lv st G E kc ks = ((match xm_get lv a with
    | some w => bif xm_isA w then ih rest lv (w :: st) G E kc ks else false
    | none => false)) := rfl
theorem xe_aload_n {i : Fin 4} : xm_body call full nL mc ms ret Q ih (pc, .aload_n i, a, b, ts, v) rest lv st G E kc ks = ((match xm_get lv a with
    | some w => bif xm_isA w then ih rest lv (w :: st) G E kc ks else false
    | none => false)) := rfl
theorem xe_istore {i : Nat} : xm_body call full nL mc ms ret Q ih (pc, .istore i, a, b, ts, v) rest lv st G E kc ks = ((match st with
    | w :: st => bif xm_isI w && Nat.blt a nL then ih rest (xm_set1 lv a w) st G E kc ks else false
    | _ => false)) := rfl
theorem xe_istore_n {i : Fin 4} : xm_body call full nL mc ms ret Q ih (pc, .istore_n i, a, b, ts, v) rest lv st G E kc ks = ((match st with
    | w :: st => bif xm_isI w && Nat.blt a nL then ih rest (xm_set1 lv a w) st G E kc ks else false
    | _ => false)) := rfl
theorem xe_lstore {i : Nat} : xm_body call full nL mc ms ret Q ih (pc, .lstore i, a, b, ts, v) rest lv st G E kc ks = ((match st with
    | w :: st => bif xm_isL w && Nat.blt (a + 1) nL then ih rest (xm_set2 lv a w) st G E kc ks else false
    | _ => false)) := rfl
theorem xe_lstore_n {i : Fin 4} : xm_body call full nL mc ms ret Q ih (pc, .lstore_n i, a, b, ts, v) rest lv st G E kc ks = ((match st with
    | w :: st => bif xm_isL w && Nat.blt (a + 1) nL then ih rest (xm_set2 lv a w) st G E kc ks else false
    | _ => false)) := rfl
theorem xe_astore {i : Nat} : xm_body call full nL mc ms ret Q ih (pc, .astore i, a, b, ts, v) rest lv st G E kc ks = ((match st with
    | w :: st => bif xm_isA w && Nat.blt a nL then ih rest (xm_set1 lv a w) st G E kc ks else false
    | _ => false)) := rfl
theorem xe_astore_n {i : Fin 4} : xm_body call full nL mc ms ret Q ih (pc, .astore_n i, a, b, ts, v) rest lv st G E kc ks = ((match st with
    | w :: st => bif xm_isA w && Nat.blt a nL then ih rest (xm_set1 lv a w) st G E kc ks else false
    | _ => false)) := rfl
theorem xe_iinc {i : Nat} {c : Int} : xm_body call full nL mc ms ret Q ih (pc, .iinc i c, a, b, ts, v) rest lv st G E kc ks = ((match xm_get lv a with
    | some w => bif Nat.blt a nL then xm_conc E w (fun E x => xm_frc (x + Int32.ofInt c) (fun z => ih rest (xm_set1 lv a (.int z)) st G E kc ks)) else false
    | none => false)) := rfl
theorem xe_iadd  : xm_body call full nL mc ms ret Q ih (pc, .iadd, a, b, ts, v) rest lv st G E kc ks = (xm_int2 .iadd st E (fun st E => ih rest lv st G E kc ks)) := rfl
theorem xe_isub  : xm_body call full nL mc ms ret Q ih (pc, .isub, a, b, ts, v) rest lv st G E kc ks = (xm_int2 .isub st E (fun st E => ih rest lv st G E kc ks)) := rfl
theorem xe_imul  : xm_body call full nL mc ms ret Q ih (pc, .imul, a, b, ts, v) rest lv st G E kc ks = (xm_int2 .imul st E (fun st E => ih rest lv st G E kc ks)) := rfl
theorem xe_iand  : xm_body call full nL mc ms ret Q ih (pc, .iand, a, b, ts, v) rest lv st G E kc ks = (xm_iand st E (fun st E => ih rest lv st G E kc ks)) := rfl
theorem xe_ior  : xm_body call full nL mc ms ret Q ih (pc, .ior, a, b, ts, v) rest lv st G E kc ks = (xm_int2 .ior st E (fun st E => ih rest lv st G E kc ks)) := rfl
theorem xe_ixor  : xm_body call full nL mc ms ret Q ih (pc, .ixor, a, b, ts, v) rest lv st G E kc ks = (xm_int2 .ixor st E (fun st E => ih rest lv st G E kc ks)) := rfl
theorem xe_ishl  : xm_body call full nL mc ms ret Q ih (pc, .ishl, a, b, ts, v) rest lv st G E kc ks = (xm_int2 .ishl st E (fun st E => ih rest lv st G E kc ks)) := rfl
theorem xe_ishr  : xm_body call full nL mc ms ret Q ih (pc, .ishr, a, b, ts, v) rest lv st G E kc ks = (xm_ishr st E (fun st E => ih rest lv st G E kc ks)) := rfl
theorem xe_iushr  : xm_body call full nL mc ms ret Q ih (pc, .iushr, a, b, ts, v) rest lv st G E kc ks = (xm_int2 .iushr st E (fun st E => ih rest lv st G E kc ks)) := rfl
theorem xe_idiv  : xm_body call full nL mc ms ret Q ih (pc, .idiv, a, b, ts, v) rest lv st G E kc ks = (xm_int2 .idiv st E (fun st E => ih rest lv st G E kc ks)) := rfl
theorem xe_irem  : xm_body call full nL mc ms ret Q ih (pc, .irem, a, b, ts, v) rest lv st G E kc ks = (xm_int2 .irem st E (fun st E => ih rest lv st G E kc ks)) := rfl
theorem xe_ineg  : xm_body call full nL mc ms ret Q ih (pc, .ineg, a, b, ts, v) rest lv st G E kc ks = ((match st with
    | w :: st => xm_conc E w (fun E x => xm_frc (-x) (fun z => ih rest lv (.int z :: st) G E kc ks))
    | _ => false)) := rfl
theorem xe_i2b  : xm_body call full nL mc ms ret Q ih (pc, .i2b, a, b, ts, v) rest lv st G E kc ks = (xm_i2b st E (fun st E => ih rest lv st G E kc ks)) := rfl
theorem xe_i2l  : xm_body call full nL mc ms ret Q ih (pc, .i2l, a, b, ts, v) rest lv st G E kc ks = (xm_i2l st (fun st => ih rest lv st G E kc ks)) := rfl
theorem xe_l2i  : xm_body call full nL mc ms ret Q ih (pc, .l2i, a, b, ts, v) rest lv st G E kc ks = ((match st with
    | .long x :: st => xm_frc x.toInt32 (fun z => ih rest lv (.int z :: st) G E kc ks)
    | _ => false)) := rfl
theorem xe_ladd  : xm_body call full nL mc ms ret Q ih (pc, .ladd, a, b, ts, v) rest lv st G E kc ks = (xm_long2 .ladd st (fun st => ih rest lv st G E kc ks)) := rfl
theorem xe_lsub  : xm_body call full nL mc ms ret Q ih (pc, .lsub, a, b, ts, v) rest lv st G E kc ks = (xm_long2 .lsub st (fun st => ih rest lv st G E kc ks)) := rfl
theorem xe_lmul  : xm_body call full nL mc ms ret Q ih (pc, .lmul, a, b, ts, v) rest lv st G E kc ks = (xm_long2 .lmul st (fun st => ih rest lv st G E kc ks)) := rfl
theorem xe_land  : xm_body call full nL mc ms ret Q ih (pc, .land, a, b, ts, v) rest lv st G E kc ks = (xm_long2 .land st (fun st => ih rest lv st G E kc ks)) := rfl
theorem xe_lor  : xm_body call full nL mc ms ret Q ih (pc, .lor, a, b, ts, v) rest lv st G E kc ks = (xm_long2 .lor st (fun st => ih rest lv st G E kc ks)) := rfl
theorem xe_ldiv  : xm_body call full nL mc ms ret Q ih (pc, .ldiv, a, b, ts, v) rest lv st G E kc ks = (xm_long2 .ldiv st (fun st => ih rest lv st G E kc ks)) := rfl
theorem xe_lrem  : xm_body call full nL mc ms ret Q ih (pc, .lrem, a, b, ts, v) rest lv st G E kc ks = (xm_long2 .lrem st (fun st => ih rest lv st G E kc ks)) := rfl
theorem xe_lshl  : xm_body call full nL mc ms ret Q ih (pc, .lshl, a, b, ts, v) rest lv st G E kc ks = ((match st with
    | .int y :: .long x :: st => ih rest lv (.long (x <<< (y.toInt64 &&& 63)) :: st) G E kc ks
    | _ => false)) := rfl
theorem xe_lshr  : xm_body call full nL mc ms ret Q ih (pc, .lshr, a, b, ts, v) rest lv st G E kc ks = ((match st with
    | .int y :: .long x :: st => ih rest lv (.long (x >>> (y.toInt64 &&& 63)) :: st) G E kc ks
    | _ => false)) := rfl
theorem xe_lcmp  : xm_body call full nL mc ms ret Q ih (pc, .lcmp, a, b, ts, v) rest lv st G E kc ks = ((match st with
    | w :: u :: st => xm_cmpL E u w (fun E s => ih rest lv (.int (Int32.ofInt s) :: st) G E kc ks)
    | _ => false)) := rfl
theorem xe_dup  : xm_body call full nL mc ms ret Q ih (pc, .dup, a, b, ts, v) rest lv st G E kc ks = ((match st with
    | w :: st => bif xm_cat1 w then ih rest lv (w :: w :: st) G E kc ks else false
    | _ => false)) := rfl
theorem xe_pop  : xm_body call full nL mc ms ret Q ih (pc, .pop, a, b, ts, v) rest lv st G E kc ks = ((match st with
    | w :: st => bif xm_cat1 w then ih rest lv st G E kc ks else false
    | _ => false)) := rfl
theorem xe_dup2  : xm_body call full nL mc ms ret Q ih (pc, .dup2, a, b, ts, v) rest lv st G E kc ks = ((match st with
    | w :: u :: st => bif xm_cat1 w && xm_cat1 u then ih rest lv (w :: u :: w :: u :: st) G E kc ks else false
    | _ => false)) := rfl
theorem xe_goto {off : Int} : xm_body call full nL mc ms ret Q ih (pc, .goto off, a, b, ts, v) rest lv st G E kc ks = (ih (xm_drop a full) lv st G E kc ks) := rfl
theorem xe_ifCond {c : Jvm.ClassFile.Cond} {off : Int} : xm_body call full nL mc ms ret Q ih (pc, .ifCond c off, a, b, ts, v) rest lv st G E kc ks = ((match st with
    | w :: st => xm_cmpI E w (.int 0) (fun E s => bif xm_holds c s then ih (xm_drop a full) lv st G E kc ks else ih rest lv st G E kc ks)
    | _ => false)) := rfl
theorem xe_if_icmp {c : Jvm.ClassFile.Cond} {off : Int} : xm_body call full nL mc ms ret Q ih (pc, .if_icmp c off, a, b, ts, v) rest lv st G E kc ks = ((match st with
    | w :: u :: st => xm_cmpI E u w (fun E s => bif xm_holds c s then ih (xm_drop a full) lv st G E kc ks else ih rest lv st G E kc ks)
    | _ => false)) := rfl
theorem xe_ifnull {off : Int} : xm_body call full nL mc ms ret Q ih (pc, .ifnull off, a, b, ts, v) rest lv st G E kc ks = ((match st with
    | .ref _ :: st => ih rest lv st G E kc ks
    | .null :: st => ih (xm_drop a full) lv st G E kc ks
    | _ => false)) := rfl
theorem xe_ifnonnull {off : Int} : xm_body call full nL mc ms ret Q ih (pc, .ifnonnull off, a, b, ts, v) rest lv st G E kc ks = ((match st with
    | .ref _ :: st => ih (xm_drop a full) lv st G E kc ks
    | .null :: st => ih rest lv st G E kc ks
    | _ => false)) := rfl
theorem xe_tableswitch {dd lo hi : Int} {offs : Array Int} : xm_body call full nL mc ms ret Q ih (pc, .tableswitch dd lo hi offs, a, b, ts, v) rest lv st G E kc ks = ((match st with
    | w :: st => xm_table lo a ts w E (fun E t => ih (xm_drop t full) lv st G E kc ks)
    | _ => false)) := rfl
theorem xe_lookupswitch {dd : Int} {ps : Array (Int × Int)} : xm_body call full nL mc ms ret Q ih (pc, .lookupswitch dd ps, a, b, ts, v) rest lv st G E kc ks = ((match st with
    | .int x :: st => ih (xm_drop (xm_look a ps.toList ts x.toInt) full) lv st G E kc ks
    | _ => false)) := rfl
theorem xe_iaload  : xm_body call full nL mc ms ret Q ih (pc, .iaload, a, b, ts, v) rest lv st G E kc ks = (xm_iald st G E (fun st E => ih rest lv st G E kc ks)) := rfl
theorem xe_baload  : xm_body call full nL mc ms ret Q ih (pc, .baload, a, b, ts, v) rest lv st G E kc ks = (xm_bald st G E (fun st E => ih rest lv st G E kc ks)) := rfl
theorem xe_laload  : xm_body call full nL mc ms ret Q ih (pc, .laload, a, b, ts, v) rest lv st G E kc ks = (xm_ald (fun t => Nat.beq t 102) st G E (fun st E => ih rest lv st G E kc ks)) := rfl
theorem xe_aaload  : xm_body call full nL mc ms ret Q ih (pc, .aaload, a, b, ts, v) rest lv st G E kc ks = (xm_ald xm_isAr st G E (fun st E => ih rest lv st G E kc ks)) := rfl
theorem xe_iastore  : xm_body call full nL mc ms ret Q ih (pc, .iastore, a, b, ts, v) rest lv st G E kc ks = (xm_ast (fun t => Nat.beq t 100) xm_kI st G E (fun st G E => ih rest lv st G E kc ks)) := rfl
theorem xe_bastore  : xm_body call full nL mc ms ret Q ih (pc, .bastore, a, b, ts, v) rest lv st G E kc ks = (xm_bast st G E (fun st G E => ih rest lv st G E kc ks)) := rfl
theorem xe_lastore  : xm_body call full nL mc ms ret Q ih (pc, .lastore, a, b, ts, v) rest lv st G E kc ks = (xm_ast (fun t => Nat.beq t 102) xm_kL st G E (fun st G E => ih rest lv st G E kc ks)) := rfl
theorem xe_aastore  : xm_body call full nL mc ms ret Q ih (pc, .aastore, a, b, ts, v) rest lv st G E kc ks = (xm_aast st G E (fun st G E => ih rest lv st G E kc ks)) := rfl
theorem xe_arraylength  : xm_body call full nL mc ms ret Q ih (pc, .arraylength, a, b, ts, v) rest lv st G E kc ks = (xm_alen st G (fun st => ih rest lv st G E kc ks)) := rfl
theorem xe_newarray {t : ArrayType} : xm_body call full nL mc ms ret Q ih (pc, .newarray t, a, b, ts, v) rest lv st G E kc ks = (xm_newa a st G E kc ks mc ms (fun st G E kc ks => ih rest lv st G E kc ks)) := rfl
theorem xe_anewarray {i : Nat} : xm_body call full nL mc ms ret Q ih (pc, .anewarray i, a, b, ts, v) rest lv st G E kc ks = (xm_newa a st G E kc ks mc ms (fun st G E kc ks => ih rest lv st G E kc ks)) := rfl
theorem xe_new {i : Nat} : xm_body call full nL mc ms ret Q ih (pc, .new i, a, b, ts, v) rest lv st G E kc ks = ((match xm_nth xm_cls a with
    | some (_, _, n) => bif Nat.ble (kc + 1) mc && Nat.ble (ks + n) ms then ih rest lv (.ref G.1 :: st) (xm_push G (a, xm_def a)) E (kc + 1) (ks + n) else false
    | none => false)) := rfl
theorem xe_getfield {i : Nat} : xm_body call full nL mc ms ret Q ih (pc, .getfield i, a, b, ts, v) rest lv st G E kc ks = (xm_getf a b st G (fun st => ih rest lv st G E kc ks)) := rfl
theorem xe_putfield {i : Nat} : xm_body call full nL mc ms ret Q ih (pc, .putfield i, a, b, ts, v) rest lv st G E kc ks = ((match st with
    | w :: .ref j :: st => (match xm_hget G j with
      | some (t, vs) => bif Nat.beq t a && (Nat.ble 7 j && (xm_fit (xm_ty t b) w && Nat.blt b (xm_len vs))) then ih rest lv st (xm_hput G j (t, xm_put w vs b)) E kc ks else false
      | none => false)
    | _ => false)) := rfl
theorem xe_invokevirtual {i : Nat} : xm_body call full nL mc ms ret Q ih (pc, .invokevirtual i, a, b, ts, v) rest lv st G E kc ks = (xm_call call mc ms a 0 st G E kc ks (fun st G E kc ks => ih rest lv st G E kc ks)) := rfl
theorem xe_invokestatic {i : Nat} : xm_body call full nL mc ms ret Q ih (pc, .invokestatic i, a, b, ts, v) rest lv st G E kc ks = (bif Nat.beq a 1001 then xm_acopy st G (fun st G => ih rest lv st G E kc ks) else bif Nat.beq b 3 then xm_call call mc ms a 3 st G E kc ks (fun st G E kc ks => ih rest lv st G E kc ks) else xm_call call mc ms a 1 st G E kc ks (fun st G E kc ks => ih rest lv st G E kc ks)) := rfl
theorem xe_invokespecial {i : Nat} : xm_body call full nL mc ms ret Q ih (pc, .invokespecial i, a, b, ts, v) rest lv st G E kc ks = (bif Nat.beq a 1000 then (match st with
      | .ref _ :: st => bif Nat.ble (xm_cats st) 8 then ih rest lv st G E kc ks else false
      | _ => false)
    else bif Nat.beq b 4 then xm_call call mc ms a 4 st G E kc ks (fun st G E kc ks => ih rest lv st G E kc ks) else xm_call call mc ms a 2 st G E kc ks (fun st G E kc ks => ih rest lv st G E kc ks)) := rfl
theorem xe_ireturn  : xm_body call full nL mc ms ret Q ih (pc, .ireturn, a, b, ts, v) rest lv st G E kc ks = ((match st with
    | [w] => bif xm_isI w && (xm_rok ret w && (Nat.ble kc mc && Nat.ble ks ms)) then Q (some w) G E else false
    | _ => false)) := rfl
theorem xe_lreturn  : xm_body call full nL mc ms ret Q ih (pc, .lreturn, a, b, ts, v) rest lv st G E kc ks = ((match st with
    | [w] => bif xm_isL w && (xm_rok ret w && (Nat.ble kc mc && Nat.ble ks ms)) then Q (some w) G E else false
    | _ => false)) := rfl
theorem xe_areturn  : xm_body call full nL mc ms ret Q ih (pc, .areturn, a, b, ts, v) rest lv st G E kc ks = ((match st with
    | [w] => bif xm_isA w && (xm_rok ret w && (Nat.ble kc mc && Nat.ble ks ms)) then Q (some w) G E else false
    | _ => false)) := rfl
theorem xe_return_  : xm_body call full nL mc ms ret Q ih (pc, .return_, a, b, ts, v) rest lv st G E kc ks = ((match st with
    | [] => bif ret.isNone && (Nat.ble kc mc && Nat.ble ks ms) then Q none G E else false
    | _ => false)) := rfl
end XK
end
section
section XM
variable {call : xm_C} {nL mc ms : Nat} {ret : Option FieldType} {Q : xm_Q} {f : Nat} {lv : xm_L} {st : List Value} {G : xm_H} {E : xm_R} {kc ks : Nat}
theorem xz_22_0 : xm_run call xm_c22 nL mc ms ret Q (f + 1) (xm_drop 0 xm_c22) lv st G E kc ks = ((match xm_get lv 1 with
    | some w => bif xm_isI w then xm_run call xm_c22 nL mc ms ret Q f (xm_drop 1 xm_c22) lv (w :: st) G E kc ks else false
    | none => false)) := rfl
theorem xz_22_1 : xm_run call xm_c22 nL mc ms ret Q (f + 1) (xm_drop 1 xm_c22) lv st G E kc ks = ((match st with
    | w :: st => xm_cmpI E w (.int 0) (fun E s => bif xm_holds .lt s then xm_run call xm_c22 nL mc ms ret Q f (xm_drop 8 xm_c22) lv st G E kc ks else xm_run call xm_c22 nL mc ms ret Q f (xm_drop 2 xm_c22) lv st G E kc ks)
    | _ => false)) := rfl
theorem xz_22_2 : xm_run call xm_c22 nL mc ms ret Q (f + 1) (xm_drop 2 xm_c22) lv st G E kc ks = ((match xm_get lv 1 with
    | some w => bif xm_isI w then xm_run call xm_c22 nL mc ms ret Q f (xm_drop 3 xm_c22) lv (w :: st) G E kc ks else false
    | none => false)) := rfl
theorem xz_22_3 : xm_run call xm_c22 nL mc ms ret Q (f + 1) (xm_drop 3 xm_c22) lv st G E kc ks = ((match xm_get lv 0 with
    | some w => bif xm_isA w then xm_run call xm_c22 nL mc ms ret Q f (xm_drop 4 xm_c22) lv (w :: st) G E kc ks else false
    | none => false)) := rfl
theorem xz_22_4 : xm_run call xm_c22 nL mc ms ret Q (f + 1) (xm_drop 4 xm_c22) lv st G E kc ks = (xm_getf 3 0 st G (fun st => xm_run call xm_c22 nL mc ms ret Q f (xm_drop 5 xm_c22) lv st G E kc ks)) := rfl
theorem xz_22_5 : xm_run call xm_c22 nL mc ms ret Q (f + 1) (xm_drop 5 xm_c22) lv st G E kc ks = ((match st with
    | w :: u :: st => xm_cmpI E u w (fun E s => bif xm_holds .ge s then xm_run call xm_c22 nL mc ms ret Q f (xm_drop 8 xm_c22) lv st G E kc ks else xm_run call xm_c22 nL mc ms ret Q f (xm_drop 6 xm_c22) lv st G E kc ks)
    | _ => false)) := rfl
theorem xz_22_6 : xm_run call xm_c22 nL mc ms ret Q (f + 1) (xm_drop 6 xm_c22) lv st G E kc ks = (xm_run call xm_c22 nL mc ms ret Q f (xm_drop 7 xm_c22) lv ((.int 1) :: st) G E kc ks) := rfl
theorem xz_22_7 : xm_run call xm_c22 nL mc ms ret Q (f + 1) (xm_drop 7 xm_c22) lv st G E kc ks = (xm_run call xm_c22 nL mc ms ret Q f (xm_drop 9 xm_c22) lv st G E kc ks) := rfl
theorem xz_22_8 : xm_run call xm_c22 nL mc ms ret Q (f + 1) (xm_drop 8 xm_c22) lv st G E kc ks = (xm_run call xm_c22 nL mc ms ret Q f (xm_drop 9 xm_c22) lv ((.int 0) :: st) G E kc ks) := rfl
theorem xz_22_9 : xm_run call xm_c22 nL mc ms ret Q (f + 1) (xm_drop 9 xm_c22) lv st G E kc ks = ((match st with
    | [w] => bif xm_isI w && (xm_rok ret w && (Nat.ble kc mc && Nat.ble ks ms)) then Q (some w) G E else false
    | _ => false)) := rfl
theorem xz_23_0 : xm_run call xm_c23 nL mc ms ret Q (f + 1) (xm_drop 0 xm_c23) lv st G E kc ks = ((match xm_get lv 1 with
    | some w => bif xm_isI w then xm_run call xm_c23 nL mc ms ret Q f (xm_drop 1 xm_c23) lv (w :: st) G E kc ks else false
    | none => false)) := rfl
theorem xz_23_1 : xm_run call xm_c23 nL mc ms ret Q (f + 1) (xm_drop 1 xm_c23) lv st G E kc ks = ((match st with
    | w :: st => xm_cmpI E w (.int 0) (fun E s => bif xm_holds .lt s then xm_run call xm_c23 nL mc ms ret Q f (xm_drop 8 xm_c23) lv st G E kc ks else xm_run call xm_c23 nL mc ms ret Q f (xm_drop 2 xm_c23) lv st G E kc ks)
    | _ => false)) := rfl
theorem xz_23_2 : xm_run call xm_c23 nL mc ms ret Q (f + 1) (xm_drop 2 xm_c23) lv st G E kc ks = ((match xm_get lv 1 with
    | some w => bif xm_isI w then xm_run call xm_c23 nL mc ms ret Q f (xm_drop 3 xm_c23) lv (w :: st) G E kc ks else false
    | none => false)) := rfl
theorem xz_23_3 : xm_run call xm_c23 nL mc ms ret Q (f + 1) (xm_drop 3 xm_c23) lv st G E kc ks = ((match xm_get lv 0 with
    | some w => bif xm_isA w then xm_run call xm_c23 nL mc ms ret Q f (xm_drop 4 xm_c23) lv (w :: st) G E kc ks else false
    | none => false)) := rfl
theorem xz_23_4 : xm_run call xm_c23 nL mc ms ret Q (f + 1) (xm_drop 4 xm_c23) lv st G E kc ks = (xm_getf 3 1 st G (fun st => xm_run call xm_c23 nL mc ms ret Q f (xm_drop 5 xm_c23) lv st G E kc ks)) := rfl
theorem xz_23_5 : xm_run call xm_c23 nL mc ms ret Q (f + 1) (xm_drop 5 xm_c23) lv st G E kc ks = ((match st with
    | w :: u :: st => xm_cmpI E u w (fun E s => bif xm_holds .ge s then xm_run call xm_c23 nL mc ms ret Q f (xm_drop 8 xm_c23) lv st G E kc ks else xm_run call xm_c23 nL mc ms ret Q f (xm_drop 6 xm_c23) lv st G E kc ks)
    | _ => false)) := rfl
theorem xz_23_6 : xm_run call xm_c23 nL mc ms ret Q (f + 1) (xm_drop 6 xm_c23) lv st G E kc ks = (xm_run call xm_c23 nL mc ms ret Q f (xm_drop 7 xm_c23) lv ((.int 1) :: st) G E kc ks) := rfl
theorem xz_23_7 : xm_run call xm_c23 nL mc ms ret Q (f + 1) (xm_drop 7 xm_c23) lv st G E kc ks = (xm_run call xm_c23 nL mc ms ret Q f (xm_drop 9 xm_c23) lv st G E kc ks) := rfl
theorem xz_23_8 : xm_run call xm_c23 nL mc ms ret Q (f + 1) (xm_drop 8 xm_c23) lv st G E kc ks = (xm_run call xm_c23 nL mc ms ret Q f (xm_drop 9 xm_c23) lv ((.int 0) :: st) G E kc ks) := rfl
theorem xz_23_9 : xm_run call xm_c23 nL mc ms ret Q (f + 1) (xm_drop 9 xm_c23) lv st G E kc ks = ((match st with
    | [w] => bif xm_isI w && (xm_rok ret w && (Nat.ble kc mc && Nat.ble ks ms)) then Q (some w) G E else false
    | _ => false)) := rfl
theorem xz_79_0 : xm_run call xm_c79 nL mc ms ret Q (f + 1) (xm_drop 0 xm_c79) lv st G E kc ks = (xm_run call xm_c79 nL mc ms ret Q f (xm_drop 1 xm_c79) lv ((.int 24) :: st) G E kc ks) := rfl
theorem xz_79_1 : xm_run call xm_c79 nL mc ms ret Q (f + 1) (xm_drop 1 xm_c79) lv st G E kc ks = ((match st with
    | w :: st => bif xm_isI w && Nat.blt 2 nL then xm_run call xm_c79 nL mc ms ret Q f (xm_drop 2 xm_c79) (xm_set1 lv 2 w) st G E kc ks else false
    | _ => false)) := rfl
theorem xz_79_2 : xm_run call xm_c79 nL mc ms ret Q (f + 1) (xm_drop 2 xm_c79) lv st G E kc ks = ((match xm_get lv 2 with
    | some w => bif xm_isI w then xm_run call xm_c79 nL mc ms ret Q f (xm_drop 3 xm_c79) lv (w :: st) G E kc ks else false
    | none => false)) := rfl
theorem xz_79_3 : xm_run call xm_c79 nL mc ms ret Q (f + 1) (xm_drop 3 xm_c79) lv st G E kc ks = ((match st with
    | w :: st => xm_cmpI E w (.int 0) (fun E s => bif xm_holds .lt s then xm_run call xm_c79 nL mc ms ret Q f (xm_drop 25 xm_c79) lv st G E kc ks else xm_run call xm_c79 nL mc ms ret Q f (xm_drop 4 xm_c79) lv st G E kc ks)
    | _ => false)) := rfl
theorem xz_79_4 : xm_run call xm_c79 nL mc ms ret Q (f + 1) (xm_drop 4 xm_c79) lv st G E kc ks = ((match xm_get lv 0 with
    | some w => bif xm_isA w then xm_run call xm_c79 nL mc ms ret Q f (xm_drop 5 xm_c79) lv (w :: st) G E kc ks else false
    | none => false)) := rfl
theorem xz_79_5 : xm_run call xm_c79 nL mc ms ret Q (f + 1) (xm_drop 5 xm_c79) lv st G E kc ks = (xm_getf 9 1 st G (fun st => xm_run call xm_c79 nL mc ms ret Q f (xm_drop 6 xm_c79) lv st G E kc ks)) := rfl
theorem xz_79_6 : xm_run call xm_c79 nL mc ms ret Q (f + 1) (xm_drop 6 xm_c79) lv st G E kc ks = (xm_run call xm_c79 nL mc ms ret Q f (xm_drop 7 xm_c79) lv ((.int 400) :: st) G E kc ks) := rfl
theorem xz_79_7 : xm_run call xm_c79 nL mc ms ret Q (f + 1) (xm_drop 7 xm_c79) lv st G E kc ks = ((match st with
    | w :: u :: st => xm_cmpI E u w (fun E s => bif xm_holds .ge s then xm_run call xm_c79 nL mc ms ret Q f (xm_drop 25 xm_c79) lv st G E kc ks else xm_run call xm_c79 nL mc ms ret Q f (xm_drop 8 xm_c79) lv st G E kc ks)
    | _ => false)) := rfl
theorem xz_79_8 : xm_run call xm_c79 nL mc ms ret Q (f + 1) (xm_drop 8 xm_c79) lv st G E kc ks = ((match xm_get lv 0 with
    | some w => bif xm_isA w then xm_run call xm_c79 nL mc ms ret Q f (xm_drop 9 xm_c79) lv (w :: st) G E kc ks else false
    | none => false)) := rfl
theorem xz_79_9 : xm_run call xm_c79 nL mc ms ret Q (f + 1) (xm_drop 9 xm_c79) lv st G E kc ks = (xm_getf 9 0 st G (fun st => xm_run call xm_c79 nL mc ms ret Q f (xm_drop 10 xm_c79) lv st G E kc ks)) := rfl
theorem xz_79_10 : xm_run call xm_c79 nL mc ms ret Q (f + 1) (xm_drop 10 xm_c79) lv st G E kc ks = ((match xm_get lv 0 with
    | some w => bif xm_isA w then xm_run call xm_c79 nL mc ms ret Q f (xm_drop 11 xm_c79) lv (w :: st) G E kc ks else false
    | none => false)) := rfl
theorem xz_79_11 : xm_run call xm_c79 nL mc ms ret Q (f + 1) (xm_drop 11 xm_c79) lv st G E kc ks = (xm_getf 9 1 st G (fun st => xm_run call xm_c79 nL mc ms ret Q f (xm_drop 12 xm_c79) lv st G E kc ks)) := rfl
theorem xz_79_12 : xm_run call xm_c79 nL mc ms ret Q (f + 1) (xm_drop 12 xm_c79) lv st G E kc ks = ((match xm_get lv 1 with
    | some w => bif xm_isI w then xm_run call xm_c79 nL mc ms ret Q f (xm_drop 13 xm_c79) lv (w :: st) G E kc ks else false
    | none => false)) := rfl
theorem xz_79_13 : xm_run call xm_c79 nL mc ms ret Q (f + 1) (xm_drop 13 xm_c79) lv st G E kc ks = ((match xm_get lv 2 with
    | some w => bif xm_isI w then xm_run call xm_c79 nL mc ms ret Q f (xm_drop 14 xm_c79) lv (w :: st) G E kc ks else false
    | none => false)) := rfl
theorem xz_79_14 : xm_run call xm_c79 nL mc ms ret Q (f + 1) (xm_drop 14 xm_c79) lv st G E kc ks = (xm_ishr st E (fun st E => xm_run call xm_c79 nL mc ms ret Q f (xm_drop 15 xm_c79) lv st G E kc ks)) := rfl
theorem xz_79_15 : xm_run call xm_c79 nL mc ms ret Q (f + 1) (xm_drop 15 xm_c79) lv st G E kc ks = (xm_i2b st E (fun st E => xm_run call xm_c79 nL mc ms ret Q f (xm_drop 16 xm_c79) lv st G E kc ks)) := rfl
theorem xz_79_16 : xm_run call xm_c79 nL mc ms ret Q (f + 1) (xm_drop 16 xm_c79) lv st G E kc ks = (xm_bast st G E (fun st G E => xm_run call xm_c79 nL mc ms ret Q f (xm_drop 17 xm_c79) lv st G E kc ks)) := rfl
theorem xz_79_17 : xm_run call xm_c79 nL mc ms ret Q (f + 1) (xm_drop 17 xm_c79) lv st G E kc ks = ((match xm_get lv 0 with
    | some w => bif xm_isA w then xm_run call xm_c79 nL mc ms ret Q f (xm_drop 18 xm_c79) lv (w :: st) G E kc ks else false
    | none => false)) := rfl
theorem xz_79_18 : xm_run call xm_c79 nL mc ms ret Q (f + 1) (xm_drop 18 xm_c79) lv st G E kc ks = ((match st with
    | w :: st => bif xm_cat1 w then xm_run call xm_c79 nL mc ms ret Q f (xm_drop 19 xm_c79) lv (w :: w :: st) G E kc ks else false
    | _ => false)) := rfl
theorem xz_79_19 : xm_run call xm_c79 nL mc ms ret Q (f + 1) (xm_drop 19 xm_c79) lv st G E kc ks = (xm_getf 9 1 st G (fun st => xm_run call xm_c79 nL mc ms ret Q f (xm_drop 20 xm_c79) lv st G E kc ks)) := rfl
theorem xz_79_20 : xm_run call xm_c79 nL mc ms ret Q (f + 1) (xm_drop 20 xm_c79) lv st G E kc ks = (xm_run call xm_c79 nL mc ms ret Q f (xm_drop 21 xm_c79) lv ((.int 1) :: st) G E kc ks) := rfl
theorem xz_79_21 : xm_run call xm_c79 nL mc ms ret Q (f + 1) (xm_drop 21 xm_c79) lv st G E kc ks = (xm_int2 .iadd st E (fun st E => xm_run call xm_c79 nL mc ms ret Q f (xm_drop 22 xm_c79) lv st G E kc ks)) := rfl
theorem xz_79_22 : xm_run call xm_c79 nL mc ms ret Q (f + 1) (xm_drop 22 xm_c79) lv st G E kc ks = ((match st with
    | w :: .ref j :: st => (match xm_hget G j with
      | some (t, vs) => bif Nat.beq t 9 && (Nat.ble 7 j && (xm_fit (xm_ty t 1) w && Nat.blt 1 (xm_len vs))) then xm_run call xm_c79 nL mc ms ret Q f (xm_drop 23 xm_c79) lv st (xm_hput G j (t, xm_put w vs 1)) E kc ks else false
      | none => false)
    | _ => false)) := rfl
theorem xz_79_23 : xm_run call xm_c79 nL mc ms ret Q (f + 1) (xm_drop 23 xm_c79) lv st G E kc ks = ((match xm_get lv 2 with
    | some w => bif Nat.blt 2 nL then xm_conc E w (fun E x => xm_frc (x + Int32.ofInt (-8)) (fun z => xm_run call xm_c79 nL mc ms ret Q f (xm_drop 24 xm_c79) (xm_set1 lv 2 (.int z)) st G E kc ks)) else false
    | none => false)) := rfl
theorem xz_79_24 : xm_run call xm_c79 nL mc ms ret Q (f + 1) (xm_drop 24 xm_c79) lv st G E kc ks = (xm_run call xm_c79 nL mc ms ret Q f (xm_drop 2 xm_c79) lv st G E kc ks) := rfl
theorem xz_79_25 : xm_run call xm_c79 nL mc ms ret Q (f + 1) (xm_drop 25 xm_c79) lv st G E kc ks = ((match st with
    | [] => bif ret.isNone && (Nat.ble kc mc && Nat.ble ks ms) then Q none G E else false
    | _ => false)) := rfl
theorem xz_82_0 : xm_run call xm_c82 nL mc ms ret Q (f + 1) (xm_drop 0 xm_c82) lv st G E kc ks = ((match xm_get lv 0 with
    | some w => bif xm_isA w then xm_run call xm_c82 nL mc ms ret Q f (xm_drop 1 xm_c82) lv (w :: st) G E kc ks else false
    | none => false)) := rfl
theorem xz_82_1 : xm_run call xm_c82 nL mc ms ret Q (f + 1) (xm_drop 1 xm_c82) lv st G E kc ks = (xm_getf 9 5 st G (fun st => xm_run call xm_c82 nL mc ms ret Q f (xm_drop 2 xm_c82) lv st G E kc ks)) := rfl
theorem xz_82_2 : xm_run call xm_c82 nL mc ms ret Q (f + 1) (xm_drop 2 xm_c82) lv st G E kc ks = ((match st with
    | w :: st => xm_cmpI E w (.int 0) (fun E s => bif xm_holds .eq s then xm_run call xm_c82 nL mc ms ret Q f (xm_drop 4 xm_c82) lv st G E kc ks else xm_run call xm_c82 nL mc ms ret Q f (xm_drop 3 xm_c82) lv st G E kc ks)
    | _ => false)) := rfl
theorem xz_82_3 : xm_run call xm_c82 nL mc ms ret Q (f + 1) (xm_drop 3 xm_c82) lv st G E kc ks = ((match st with
    | [] => bif ret.isNone && (Nat.ble kc mc && Nat.ble ks ms) then Q none G E else false
    | _ => false)) := rfl
theorem xz_82_4 : xm_run call xm_c82 nL mc ms ret Q (f + 1) (xm_drop 4 xm_c82) lv st G E kc ks = ((match xm_get lv 0 with
    | some w => bif xm_isA w then xm_run call xm_c82 nL mc ms ret Q f (xm_drop 5 xm_c82) lv (w :: st) G E kc ks else false
    | none => false)) := rfl
theorem xz_82_5 : xm_run call xm_c82 nL mc ms ret Q (f + 1) (xm_drop 5 xm_c82) lv st G E kc ks = ((match st with
    | w :: st => bif xm_cat1 w then xm_run call xm_c82 nL mc ms ret Q f (xm_drop 6 xm_c82) lv (w :: w :: st) G E kc ks else false
    | _ => false)) := rfl
theorem xz_82_6 : xm_run call xm_c82 nL mc ms ret Q (f + 1) (xm_drop 6 xm_c82) lv st G E kc ks = (xm_getf 9 3 st G (fun st => xm_run call xm_c82 nL mc ms ret Q f (xm_drop 7 xm_c82) lv st G E kc ks)) := rfl
theorem xz_82_7 : xm_run call xm_c82 nL mc ms ret Q (f + 1) (xm_drop 7 xm_c82) lv st G E kc ks = ((match xm_get lv 0 with
    | some w => bif xm_isA w then xm_run call xm_c82 nL mc ms ret Q f (xm_drop 8 xm_c82) lv (w :: st) G E kc ks else false
    | none => false)) := rfl
theorem xz_82_8 : xm_run call xm_c82 nL mc ms ret Q (f + 1) (xm_drop 8 xm_c82) lv st G E kc ks = (xm_getf 9 4 st G (fun st => xm_run call xm_c82 nL mc ms ret Q f (xm_drop 9 xm_c82) lv st G E kc ks)) := rfl
theorem xz_82_9 : xm_run call xm_c82 nL mc ms ret Q (f + 1) (xm_drop 9 xm_c82) lv st G E kc ks = (xm_int2 .iadd st E (fun st E => xm_run call xm_c82 nL mc ms ret Q f (xm_drop 10 xm_c82) lv st G E kc ks)) := rfl
theorem xz_82_10 : xm_run call xm_c82 nL mc ms ret Q (f + 1) (xm_drop 10 xm_c82) lv st G E kc ks = ((match st with
    | w :: .ref j :: st => (match xm_hget G j with
      | some (t, vs) => bif Nat.beq t 9 && (Nat.ble 7 j && (xm_fit (xm_ty t 3) w && Nat.blt 3 (xm_len vs))) then xm_run call xm_c82 nL mc ms ret Q f (xm_drop 11 xm_c82) lv st (xm_hput G j (t, xm_put w vs 3)) E kc ks else false
      | none => false)
    | _ => false)) := rfl
theorem xz_82_11 : xm_run call xm_c82 nL mc ms ret Q (f + 1) (xm_drop 11 xm_c82) lv st G E kc ks = ((match xm_get lv 0 with
    | some w => bif xm_isA w then xm_run call xm_c82 nL mc ms ret Q f (xm_drop 12 xm_c82) lv (w :: st) G E kc ks else false
    | none => false)) := rfl
theorem xz_82_12 : xm_run call xm_c82 nL mc ms ret Q (f + 1) (xm_drop 12 xm_c82) lv st G E kc ks = (xm_getf 9 3 st G (fun st => xm_run call xm_c82 nL mc ms ret Q f (xm_drop 13 xm_c82) lv st G E kc ks)) := rfl
theorem xz_82_13 : xm_run call xm_c82 nL mc ms ret Q (f + 1) (xm_drop 13 xm_c82) lv st G E kc ks = ((match xm_get lv 0 with
    | some w => bif xm_isA w then xm_run call xm_c82 nL mc ms ret Q f (xm_drop 14 xm_c82) lv (w :: st) G E kc ks else false
    | none => false)) := rfl
theorem xz_82_14 : xm_run call xm_c82 nL mc ms ret Q (f + 1) (xm_drop 14 xm_c82) lv st G E kc ks = (xm_getf 9 1 st G (fun st => xm_run call xm_c82 nL mc ms ret Q f (xm_drop 15 xm_c82) lv st G E kc ks)) := rfl
theorem xz_82_15 : xm_run call xm_c82 nL mc ms ret Q (f + 1) (xm_drop 15 xm_c82) lv st G E kc ks = ((match st with
    | w :: u :: st => xm_cmpI E u w (fun E s => bif xm_holds .ge s then xm_run call xm_c82 nL mc ms ret Q f (xm_drop 30 xm_c82) lv st G E kc ks else xm_run call xm_c82 nL mc ms ret Q f (xm_drop 16 xm_c82) lv st G E kc ks)
    | _ => false)) := rfl
theorem xz_82_16 : xm_run call xm_c82 nL mc ms ret Q (f + 1) (xm_drop 16 xm_c82) lv st G E kc ks = ((match xm_get lv 0 with
    | some w => bif xm_isA w then xm_run call xm_c82 nL mc ms ret Q f (xm_drop 17 xm_c82) lv (w :: st) G E kc ks else false
    | none => false)) := rfl
theorem xz_82_17 : xm_run call xm_c82 nL mc ms ret Q (f + 1) (xm_drop 17 xm_c82) lv st G E kc ks = (xm_getf 9 0 st G (fun st => xm_run call xm_c82 nL mc ms ret Q f (xm_drop 18 xm_c82) lv st G E kc ks)) := rfl
theorem xz_82_18 : xm_run call xm_c82 nL mc ms ret Q (f + 1) (xm_drop 18 xm_c82) lv st G E kc ks = ((match xm_get lv 0 with
    | some w => bif xm_isA w then xm_run call xm_c82 nL mc ms ret Q f (xm_drop 19 xm_c82) lv (w :: st) G E kc ks else false
    | none => false)) := rfl
theorem xz_82_19 : xm_run call xm_c82 nL mc ms ret Q (f + 1) (xm_drop 19 xm_c82) lv st G E kc ks = (xm_getf 9 3 st G (fun st => xm_run call xm_c82 nL mc ms ret Q f (xm_drop 20 xm_c82) lv st G E kc ks)) := rfl
theorem xz_82_20 : xm_run call xm_c82 nL mc ms ret Q (f + 1) (xm_drop 20 xm_c82) lv st G E kc ks = (xm_bald st G E (fun st E => xm_run call xm_c82 nL mc ms ret Q f (xm_drop 21 xm_c82) lv st G E kc ks)) := rfl
theorem xz_82_21 : xm_run call xm_c82 nL mc ms ret Q (f + 1) (xm_drop 21 xm_c82) lv st G E kc ks = (xm_run call xm_c82 nL mc ms ret Q f (xm_drop 22 xm_c82) lv ((.int 32) :: st) G E kc ks) := rfl
theorem xz_82_22 : xm_run call xm_c82 nL mc ms ret Q (f + 1) (xm_drop 22 xm_c82) lv st G E kc ks = ((match st with
    | w :: u :: st => xm_cmpI E u w (fun E s => bif xm_holds .ne s then xm_run call xm_c82 nL mc ms ret Q f (xm_drop 30 xm_c82) lv st G E kc ks else xm_run call xm_c82 nL mc ms ret Q f (xm_drop 23 xm_c82) lv st G E kc ks)
    | _ => false)) := rfl
theorem xz_82_23 : xm_run call xm_c82 nL mc ms ret Q (f + 1) (xm_drop 23 xm_c82) lv st G E kc ks = ((match xm_get lv 0 with
    | some w => bif xm_isA w then xm_run call xm_c82 nL mc ms ret Q f (xm_drop 24 xm_c82) lv (w :: st) G E kc ks else false
    | none => false)) := rfl
theorem xz_82_24 : xm_run call xm_c82 nL mc ms ret Q (f + 1) (xm_drop 24 xm_c82) lv st G E kc ks = ((match st with
    | w :: st => bif xm_cat1 w then xm_run call xm_c82 nL mc ms ret Q f (xm_drop 25 xm_c82) lv (w :: w :: st) G E kc ks else false
    | _ => false)) := rfl
theorem xz_82_25 : xm_run call xm_c82 nL mc ms ret Q (f + 1) (xm_drop 25 xm_c82) lv st G E kc ks = (xm_getf 9 3 st G (fun st => xm_run call xm_c82 nL mc ms ret Q f (xm_drop 26 xm_c82) lv st G E kc ks)) := rfl
theorem xz_82_26 : xm_run call xm_c82 nL mc ms ret Q (f + 1) (xm_drop 26 xm_c82) lv st G E kc ks = (xm_run call xm_c82 nL mc ms ret Q f (xm_drop 27 xm_c82) lv ((.int 1) :: st) G E kc ks) := rfl
theorem xz_82_27 : xm_run call xm_c82 nL mc ms ret Q (f + 1) (xm_drop 27 xm_c82) lv st G E kc ks = (xm_int2 .iadd st E (fun st E => xm_run call xm_c82 nL mc ms ret Q f (xm_drop 28 xm_c82) lv st G E kc ks)) := rfl
theorem xz_82_28 : xm_run call xm_c82 nL mc ms ret Q (f + 1) (xm_drop 28 xm_c82) lv st G E kc ks = ((match st with
    | w :: .ref j :: st => (match xm_hget G j with
      | some (t, vs) => bif Nat.beq t 9 && (Nat.ble 7 j && (xm_fit (xm_ty t 3) w && Nat.blt 3 (xm_len vs))) then xm_run call xm_c82 nL mc ms ret Q f (xm_drop 29 xm_c82) lv st (xm_hput G j (t, xm_put w vs 3)) E kc ks else false
      | none => false)
    | _ => false)) := rfl
theorem xz_82_29 : xm_run call xm_c82 nL mc ms ret Q (f + 1) (xm_drop 29 xm_c82) lv st G E kc ks = (xm_run call xm_c82 nL mc ms ret Q f (xm_drop 11 xm_c82) lv st G E kc ks) := rfl
theorem xz_82_30 : xm_run call xm_c82 nL mc ms ret Q (f + 1) (xm_drop 30 xm_c82) lv st G E kc ks = ((match xm_get lv 0 with
    | some w => bif xm_isA w then xm_run call xm_c82 nL mc ms ret Q f (xm_drop 31 xm_c82) lv (w :: st) G E kc ks else false
    | none => false)) := rfl
theorem xz_82_31 : xm_run call xm_c82 nL mc ms ret Q (f + 1) (xm_drop 31 xm_c82) lv st G E kc ks = ((match xm_get lv 0 with
    | some w => bif xm_isA w then xm_run call xm_c82 nL mc ms ret Q f (xm_drop 32 xm_c82) lv (w :: st) G E kc ks else false
    | none => false)) := rfl
theorem xz_82_32 : xm_run call xm_c82 nL mc ms ret Q (f + 1) (xm_drop 32 xm_c82) lv st G E kc ks = (xm_getf 9 3 st G (fun st => xm_run call xm_c82 nL mc ms ret Q f (xm_drop 33 xm_c82) lv st G E kc ks)) := rfl
theorem xz_82_33 : xm_run call xm_c82 nL mc ms ret Q (f + 1) (xm_drop 33 xm_c82) lv st G E kc ks = ((match xm_get lv 0 with
    | some w => bif xm_isA w then xm_run call xm_c82 nL mc ms ret Q f (xm_drop 34 xm_c82) lv (w :: st) G E kc ks else false
    | none => false)) := rfl
theorem xz_82_34 : xm_run call xm_c82 nL mc ms ret Q (f + 1) (xm_drop 34 xm_c82) lv st G E kc ks = (xm_getf 9 1 st G (fun st => xm_run call xm_c82 nL mc ms ret Q f (xm_drop 35 xm_c82) lv st G E kc ks)) := rfl
theorem xz_82_35 : xm_run call xm_c82 nL mc ms ret Q (f + 1) (xm_drop 35 xm_c82) lv st G E kc ks = ((match st with
    | w :: u :: st => xm_cmpI E u w (fun E s => bif xm_holds .ge s then xm_run call xm_c82 nL mc ms ret Q f (xm_drop 38 xm_c82) lv st G E kc ks else xm_run call xm_c82 nL mc ms ret Q f (xm_drop 36 xm_c82) lv st G E kc ks)
    | _ => false)) := rfl
theorem xz_82_36 : xm_run call xm_c82 nL mc ms ret Q (f + 1) (xm_drop 36 xm_c82) lv st G E kc ks = (xm_run call xm_c82 nL mc ms ret Q f (xm_drop 37 xm_c82) lv ((.int 1) :: st) G E kc ks) := rfl
theorem xz_82_37 : xm_run call xm_c82 nL mc ms ret Q (f + 1) (xm_drop 37 xm_c82) lv st G E kc ks = (xm_run call xm_c82 nL mc ms ret Q f (xm_drop 39 xm_c82) lv st G E kc ks) := rfl
theorem xz_82_38 : xm_run call xm_c82 nL mc ms ret Q (f + 1) (xm_drop 38 xm_c82) lv st G E kc ks = (xm_run call xm_c82 nL mc ms ret Q f (xm_drop 39 xm_c82) lv ((.int 0) :: st) G E kc ks) := rfl
theorem xz_82_39 : xm_run call xm_c82 nL mc ms ret Q (f + 1) (xm_drop 39 xm_c82) lv st G E kc ks = ((match st with
    | w :: .ref j :: st => (match xm_hget G j with
      | some (t, vs) => bif Nat.beq t 9 && (Nat.ble 7 j && (xm_fit (xm_ty t 4) w && Nat.blt 4 (xm_len vs))) then xm_run call xm_c82 nL mc ms ret Q f (xm_drop 40 xm_c82) lv st (xm_hput G j (t, xm_put w vs 4)) E kc ks else false
      | none => false)
    | _ => false)) := rfl
theorem xz_82_40 : xm_run call xm_c82 nL mc ms ret Q (f + 1) (xm_drop 40 xm_c82) lv st G E kc ks = ((match xm_get lv 0 with
    | some w => bif xm_isA w then xm_run call xm_c82 nL mc ms ret Q f (xm_drop 41 xm_c82) lv (w :: st) G E kc ks else false
    | none => false)) := rfl
theorem xz_82_41 : xm_run call xm_c82 nL mc ms ret Q (f + 1) (xm_drop 41 xm_c82) lv st G E kc ks = (xm_getf 9 4 st G (fun st => xm_run call xm_c82 nL mc ms ret Q f (xm_drop 42 xm_c82) lv st G E kc ks)) := rfl
theorem xz_82_42 : xm_run call xm_c82 nL mc ms ret Q (f + 1) (xm_drop 42 xm_c82) lv st G E kc ks = (xm_run call xm_c82 nL mc ms ret Q f (xm_drop 43 xm_c82) lv ((.int 1) :: st) G E kc ks) := rfl
theorem xz_82_43 : xm_run call xm_c82 nL mc ms ret Q (f + 1) (xm_drop 43 xm_c82) lv st G E kc ks = ((match st with
    | w :: u :: st => xm_cmpI E u w (fun E s => bif xm_holds .ne s then xm_run call xm_c82 nL mc ms ret Q f (xm_drop 52 xm_c82) lv st G E kc ks else xm_run call xm_c82 nL mc ms ret Q f (xm_drop 44 xm_c82) lv st G E kc ks)
    | _ => false)) := rfl
theorem xz_82_44 : xm_run call xm_c82 nL mc ms ret Q (f + 1) (xm_drop 44 xm_c82) lv st G E kc ks = ((match xm_get lv 0 with
    | some w => bif xm_isA w then xm_run call xm_c82 nL mc ms ret Q f (xm_drop 45 xm_c82) lv (w :: st) G E kc ks else false
    | none => false)) := rfl
theorem xz_82_45 : xm_run call xm_c82 nL mc ms ret Q (f + 1) (xm_drop 45 xm_c82) lv st G E kc ks = (xm_getf 9 0 st G (fun st => xm_run call xm_c82 nL mc ms ret Q f (xm_drop 46 xm_c82) lv st G E kc ks)) := rfl
theorem xz_82_46 : xm_run call xm_c82 nL mc ms ret Q (f + 1) (xm_drop 46 xm_c82) lv st G E kc ks = ((match xm_get lv 0 with
    | some w => bif xm_isA w then xm_run call xm_c82 nL mc ms ret Q f (xm_drop 47 xm_c82) lv (w :: st) G E kc ks else false
    | none => false)) := rfl
theorem xz_82_47 : xm_run call xm_c82 nL mc ms ret Q (f + 1) (xm_drop 47 xm_c82) lv st G E kc ks = (xm_getf 9 3 st G (fun st => xm_run call xm_c82 nL mc ms ret Q f (xm_drop 48 xm_c82) lv st G E kc ks)) := rfl
theorem xz_82_48 : xm_run call xm_c82 nL mc ms ret Q (f + 1) (xm_drop 48 xm_c82) lv st G E kc ks = (xm_bald st G E (fun st E => xm_run call xm_c82 nL mc ms ret Q f (xm_drop 49 xm_c82) lv st G E kc ks)) := rfl
theorem xz_82_49 : xm_run call xm_c82 nL mc ms ret Q (f + 1) (xm_drop 49 xm_c82) lv st G E kc ks = (xm_run call xm_c82 nL mc ms ret Q f (xm_drop 50 xm_c82) lv ((.int 255) :: st) G E kc ks) := rfl
theorem xz_82_50 : xm_run call xm_c82 nL mc ms ret Q (f + 1) (xm_drop 50 xm_c82) lv st G E kc ks = (xm_iand st E (fun st E => xm_run call xm_c82 nL mc ms ret Q f (xm_drop 51 xm_c82) lv st G E kc ks)) := rfl
theorem xz_82_51 : xm_run call xm_c82 nL mc ms ret Q (f + 1) (xm_drop 51 xm_c82) lv st G E kc ks = (xm_run call xm_c82 nL mc ms ret Q f (xm_drop 53 xm_c82) lv st G E kc ks) := rfl
theorem xz_82_52 : xm_run call xm_c82 nL mc ms ret Q (f + 1) (xm_drop 52 xm_c82) lv st G E kc ks = (xm_run call xm_c82 nL mc ms ret Q f (xm_drop 53 xm_c82) lv ((.int (-1)) :: st) G E kc ks) := rfl
theorem xz_82_53 : xm_run call xm_c82 nL mc ms ret Q (f + 1) (xm_drop 53 xm_c82) lv st G E kc ks = ((match st with
    | w :: st => bif xm_isI w && Nat.blt 1 nL then xm_run call xm_c82 nL mc ms ret Q f (xm_drop 54 xm_c82) (xm_set1 lv 1 w) st G E kc ks else false
    | _ => false)) := rfl
theorem xz_82_54 : xm_run call xm_c82 nL mc ms ret Q (f + 1) (xm_drop 54 xm_c82) lv st G E kc ks = ((match xm_get lv 0 with
    | some w => bif xm_isA w then xm_run call xm_c82 nL mc ms ret Q f (xm_drop 55 xm_c82) lv (w :: st) G E kc ks else false
    | none => false)) := rfl
theorem xz_82_55 : xm_run call xm_c82 nL mc ms ret Q (f + 1) (xm_drop 55 xm_c82) lv st G E kc ks = (xm_getf 9 3 st G (fun st => xm_run call xm_c82 nL mc ms ret Q f (xm_drop 56 xm_c82) lv st G E kc ks)) := rfl
theorem xz_82_56 : xm_run call xm_c82 nL mc ms ret Q (f + 1) (xm_drop 56 xm_c82) lv st G E kc ks = (xm_run call xm_c82 nL mc ms ret Q f (xm_drop 57 xm_c82) lv ((.int 1) :: st) G E kc ks) := rfl
theorem xz_82_57 : xm_run call xm_c82 nL mc ms ret Q (f + 1) (xm_drop 57 xm_c82) lv st G E kc ks = (xm_int2 .iadd st E (fun st E => xm_run call xm_c82 nL mc ms ret Q f (xm_drop 58 xm_c82) lv st G E kc ks)) := rfl
theorem xz_82_58 : xm_run call xm_c82 nL mc ms ret Q (f + 1) (xm_drop 58 xm_c82) lv st G E kc ks = ((match xm_get lv 0 with
    | some w => bif xm_isA w then xm_run call xm_c82 nL mc ms ret Q f (xm_drop 59 xm_c82) lv (w :: st) G E kc ks else false
    | none => false)) := rfl
theorem xz_82_59 : xm_run call xm_c82 nL mc ms ret Q (f + 1) (xm_drop 59 xm_c82) lv st G E kc ks = (xm_getf 9 1 st G (fun st => xm_run call xm_c82 nL mc ms ret Q f (xm_drop 60 xm_c82) lv st G E kc ks)) := rfl
theorem xz_82_60 : xm_run call xm_c82 nL mc ms ret Q (f + 1) (xm_drop 60 xm_c82) lv st G E kc ks = ((match st with
    | w :: u :: st => xm_cmpI E u w (fun E s => bif xm_holds .ge s then xm_run call xm_c82 nL mc ms ret Q f (xm_drop 69 xm_c82) lv st G E kc ks else xm_run call xm_c82 nL mc ms ret Q f (xm_drop 61 xm_c82) lv st G E kc ks)
    | _ => false)) := rfl
theorem xz_82_61 : xm_run call xm_c82 nL mc ms ret Q (f + 1) (xm_drop 61 xm_c82) lv st G E kc ks = ((match xm_get lv 0 with
    | some w => bif xm_isA w then xm_run call xm_c82 nL mc ms ret Q f (xm_drop 62 xm_c82) lv (w :: st) G E kc ks else false
    | none => false)) := rfl
theorem xz_82_62 : xm_run call xm_c82 nL mc ms ret Q (f + 1) (xm_drop 62 xm_c82) lv st G E kc ks = (xm_getf 9 0 st G (fun st => xm_run call xm_c82 nL mc ms ret Q f (xm_drop 63 xm_c82) lv st G E kc ks)) := rfl
theorem xz_82_63 : xm_run call xm_c82 nL mc ms ret Q (f + 1) (xm_drop 63 xm_c82) lv st G E kc ks = ((match xm_get lv 0 with
    | some w => bif xm_isA w then xm_run call xm_c82 nL mc ms ret Q f (xm_drop 64 xm_c82) lv (w :: st) G E kc ks else false
    | none => false)) := rfl
theorem xz_82_64 : xm_run call xm_c82 nL mc ms ret Q (f + 1) (xm_drop 64 xm_c82) lv st G E kc ks = (xm_getf 9 3 st G (fun st => xm_run call xm_c82 nL mc ms ret Q f (xm_drop 65 xm_c82) lv st G E kc ks)) := rfl
theorem xz_82_65 : xm_run call xm_c82 nL mc ms ret Q (f + 1) (xm_drop 65 xm_c82) lv st G E kc ks = (xm_run call xm_c82 nL mc ms ret Q f (xm_drop 66 xm_c82) lv ((.int 1) :: st) G E kc ks) := rfl
theorem xz_82_66 : xm_run call xm_c82 nL mc ms ret Q (f + 1) (xm_drop 66 xm_c82) lv st G E kc ks = (xm_int2 .iadd st E (fun st E => xm_run call xm_c82 nL mc ms ret Q f (xm_drop 67 xm_c82) lv st G E kc ks)) := rfl
theorem xz_82_67 : xm_run call xm_c82 nL mc ms ret Q (f + 1) (xm_drop 67 xm_c82) lv st G E kc ks = (xm_bald st G E (fun st E => xm_run call xm_c82 nL mc ms ret Q f (xm_drop 68 xm_c82) lv st G E kc ks)) := rfl
theorem xz_82_68 : xm_run call xm_c82 nL mc ms ret Q (f + 1) (xm_drop 68 xm_c82) lv st G E kc ks = (xm_run call xm_c82 nL mc ms ret Q f (xm_drop 70 xm_c82) lv st G E kc ks) := rfl
theorem xz_82_69 : xm_run call xm_c82 nL mc ms ret Q (f + 1) (xm_drop 69 xm_c82) lv st G E kc ks = (xm_run call xm_c82 nL mc ms ret Q f (xm_drop 70 xm_c82) lv ((.int (-1)) :: st) G E kc ks) := rfl
theorem xz_82_70 : xm_run call xm_c82 nL mc ms ret Q (f + 1) (xm_drop 70 xm_c82) lv st G E kc ks = ((match st with
    | w :: st => bif xm_isI w && Nat.blt 2 nL then xm_run call xm_c82 nL mc ms ret Q f (xm_drop 71 xm_c82) (xm_set1 lv 2 w) st G E kc ks else false
    | _ => false)) := rfl
theorem xz_82_71 : xm_run call xm_c82 nL mc ms ret Q (f + 1) (xm_drop 71 xm_c82) lv st G E kc ks = ((match xm_get lv 1 with
    | some w => bif xm_isI w then xm_run call xm_c82 nL mc ms ret Q f (xm_drop 72 xm_c82) lv (w :: st) G E kc ks else false
    | none => false)) := rfl
theorem xz_82_72 : xm_run call xm_c82 nL mc ms ret Q (f + 1) (xm_drop 72 xm_c82) lv st G E kc ks = (xm_run call xm_c82 nL mc ms ret Q f (xm_drop 73 xm_c82) lv ((.int 97) :: st) G E kc ks) := rfl
theorem xz_82_73 : xm_run call xm_c82 nL mc ms ret Q (f + 1) (xm_drop 73 xm_c82) lv st G E kc ks = ((match st with
    | w :: u :: st => xm_cmpI E u w (fun E s => bif xm_holds .lt s then xm_run call xm_c82 nL mc ms ret Q f (xm_drop 115 xm_c82) lv st G E kc ks else xm_run call xm_c82 nL mc ms ret Q f (xm_drop 74 xm_c82) lv st G E kc ks)
    | _ => false)) := rfl
theorem xz_82_74 : xm_run call xm_c82 nL mc ms ret Q (f + 1) (xm_drop 74 xm_c82) lv st G E kc ks = ((match xm_get lv 1 with
    | some w => bif xm_isI w then xm_run call xm_c82 nL mc ms ret Q f (xm_drop 75 xm_c82) lv (w :: st) G E kc ks else false
    | none => false)) := rfl
theorem xz_82_75 : xm_run call xm_c82 nL mc ms ret Q (f + 1) (xm_drop 75 xm_c82) lv st G E kc ks = (xm_run call xm_c82 nL mc ms ret Q f (xm_drop 76 xm_c82) lv ((.int 122) :: st) G E kc ks) := rfl
theorem xz_82_76 : xm_run call xm_c82 nL mc ms ret Q (f + 1) (xm_drop 76 xm_c82) lv st G E kc ks = ((match st with
    | w :: u :: st => xm_cmpI E u w (fun E s => bif xm_holds .gt s then xm_run call xm_c82 nL mc ms ret Q f (xm_drop 115 xm_c82) lv st G E kc ks else xm_run call xm_c82 nL mc ms ret Q f (xm_drop 77 xm_c82) lv st G E kc ks)
    | _ => false)) := rfl
theorem xz_82_77 : xm_run call xm_c82 nL mc ms ret Q (f + 1) (xm_drop 77 xm_c82) lv st G E kc ks = ((match xm_get lv 0 with
    | some w => bif xm_isA w then xm_run call xm_c82 nL mc ms ret Q f (xm_drop 78 xm_c82) lv (w :: st) G E kc ks else false
    | none => false)) := rfl
theorem xz_82_78 : xm_run call xm_c82 nL mc ms ret Q (f + 1) (xm_drop 78 xm_c82) lv st G E kc ks = (xm_run call xm_c82 nL mc ms ret Q f (xm_drop 79 xm_c82) lv ((.int 97) :: st) G E kc ks) := rfl
theorem xz_82_79 : xm_run call xm_c82 nL mc ms ret Q (f + 1) (xm_drop 79 xm_c82) lv st G E kc ks = ((match st with
    | w :: .ref j :: st => (match xm_hget G j with
      | some (t, vs) => bif Nat.beq t 9 && (Nat.ble 7 j && (xm_fit (xm_ty t 2) w && Nat.blt 2 (xm_len vs))) then xm_run call xm_c82 nL mc ms ret Q f (xm_drop 80 xm_c82) lv st (xm_hput G j (t, xm_put w vs 2)) E kc ks else false
      | none => false)
    | _ => false)) := rfl
theorem xz_82_80 : xm_run call xm_c82 nL mc ms ret Q (f + 1) (xm_drop 80 xm_c82) lv st G E kc ks = ((match xm_get lv 0 with
    | some w => bif xm_isA w then xm_run call xm_c82 nL mc ms ret Q f (xm_drop 81 xm_c82) lv (w :: st) G E kc ks else false
    | none => false)) := rfl
theorem xz_82_81 : xm_run call xm_c82 nL mc ms ret Q (f + 1) (xm_drop 81 xm_c82) lv st G E kc ks = (xm_getf 9 3 st G (fun st => xm_run call xm_c82 nL mc ms ret Q f (xm_drop 82 xm_c82) lv st G E kc ks)) := rfl
theorem xz_82_82 : xm_run call xm_c82 nL mc ms ret Q (f + 1) (xm_drop 82 xm_c82) lv st G E kc ks = ((match xm_get lv 0 with
    | some w => bif xm_isA w then xm_run call xm_c82 nL mc ms ret Q f (xm_drop 83 xm_c82) lv (w :: st) G E kc ks else false
    | none => false)) := rfl
theorem xz_82_83 : xm_run call xm_c82 nL mc ms ret Q (f + 1) (xm_drop 83 xm_c82) lv st G E kc ks = (xm_getf 9 4 st G (fun st => xm_run call xm_c82 nL mc ms ret Q f (xm_drop 84 xm_c82) lv st G E kc ks)) := rfl
theorem xz_82_84 : xm_run call xm_c82 nL mc ms ret Q (f + 1) (xm_drop 84 xm_c82) lv st G E kc ks = (xm_int2 .iadd st E (fun st E => xm_run call xm_c82 nL mc ms ret Q f (xm_drop 85 xm_c82) lv st G E kc ks)) := rfl
theorem xz_82_85 : xm_run call xm_c82 nL mc ms ret Q (f + 1) (xm_drop 85 xm_c82) lv st G E kc ks = ((match xm_get lv 0 with
    | some w => bif xm_isA w then xm_run call xm_c82 nL mc ms ret Q f (xm_drop 86 xm_c82) lv (w :: st) G E kc ks else false
    | none => false)) := rfl
theorem xz_82_86 : xm_run call xm_c82 nL mc ms ret Q (f + 1) (xm_drop 86 xm_c82) lv st G E kc ks = (xm_getf 9 1 st G (fun st => xm_run call xm_c82 nL mc ms ret Q f (xm_drop 87 xm_c82) lv st G E kc ks)) := rfl
theorem xz_82_87 : xm_run call xm_c82 nL mc ms ret Q (f + 1) (xm_drop 87 xm_c82) lv st G E kc ks = ((match st with
    | w :: u :: st => xm_cmpI E u w (fun E s => bif xm_holds .ge s then xm_run call xm_c82 nL mc ms ret Q f (xm_drop 183 xm_c82) lv st G E kc ks else xm_run call xm_c82 nL mc ms ret Q f (xm_drop 88 xm_c82) lv st G E kc ks)
    | _ => false)) := rfl
theorem xz_82_88 : xm_run call xm_c82 nL mc ms ret Q (f + 1) (xm_drop 88 xm_c82) lv st G E kc ks = ((match xm_get lv 0 with
    | some w => bif xm_isA w then xm_run call xm_c82 nL mc ms ret Q f (xm_drop 89 xm_c82) lv (w :: st) G E kc ks else false
    | none => false)) := rfl
theorem xz_82_89 : xm_run call xm_c82 nL mc ms ret Q (f + 1) (xm_drop 89 xm_c82) lv st G E kc ks = (xm_getf 9 0 st G (fun st => xm_run call xm_c82 nL mc ms ret Q f (xm_drop 90 xm_c82) lv st G E kc ks)) := rfl
theorem xz_82_90 : xm_run call xm_c82 nL mc ms ret Q (f + 1) (xm_drop 90 xm_c82) lv st G E kc ks = ((match xm_get lv 0 with
    | some w => bif xm_isA w then xm_run call xm_c82 nL mc ms ret Q f (xm_drop 91 xm_c82) lv (w :: st) G E kc ks else false
    | none => false)) := rfl
theorem xz_82_91 : xm_run call xm_c82 nL mc ms ret Q (f + 1) (xm_drop 91 xm_c82) lv st G E kc ks = (xm_getf 9 3 st G (fun st => xm_run call xm_c82 nL mc ms ret Q f (xm_drop 92 xm_c82) lv st G E kc ks)) := rfl
theorem xz_82_92 : xm_run call xm_c82 nL mc ms ret Q (f + 1) (xm_drop 92 xm_c82) lv st G E kc ks = ((match xm_get lv 0 with
    | some w => bif xm_isA w then xm_run call xm_c82 nL mc ms ret Q f (xm_drop 93 xm_c82) lv (w :: st) G E kc ks else false
    | none => false)) := rfl
theorem xz_82_93 : xm_run call xm_c82 nL mc ms ret Q (f + 1) (xm_drop 93 xm_c82) lv st G E kc ks = (xm_getf 9 4 st G (fun st => xm_run call xm_c82 nL mc ms ret Q f (xm_drop 94 xm_c82) lv st G E kc ks)) := rfl
theorem xz_82_94 : xm_run call xm_c82 nL mc ms ret Q (f + 1) (xm_drop 94 xm_c82) lv st G E kc ks = (xm_int2 .iadd st E (fun st E => xm_run call xm_c82 nL mc ms ret Q f (xm_drop 95 xm_c82) lv st G E kc ks)) := rfl
theorem xz_82_95 : xm_run call xm_c82 nL mc ms ret Q (f + 1) (xm_drop 95 xm_c82) lv st G E kc ks = (xm_bald st G E (fun st E => xm_run call xm_c82 nL mc ms ret Q f (xm_drop 96 xm_c82) lv st G E kc ks)) := rfl
theorem xz_82_96 : xm_run call xm_c82 nL mc ms ret Q (f + 1) (xm_drop 96 xm_c82) lv st G E kc ks = (xm_run call xm_c82 nL mc ms ret Q f (xm_drop 97 xm_c82) lv ((.int 97) :: st) G E kc ks) := rfl
theorem xz_82_97 : xm_run call xm_c82 nL mc ms ret Q (f + 1) (xm_drop 97 xm_c82) lv st G E kc ks = ((match st with
    | w :: u :: st => xm_cmpI E u w (fun E s => bif xm_holds .lt s then xm_run call xm_c82 nL mc ms ret Q f (xm_drop 183 xm_c82) lv st G E kc ks else xm_run call xm_c82 nL mc ms ret Q f (xm_drop 98 xm_c82) lv st G E kc ks)
    | _ => false)) := rfl
theorem xz_82_98 : xm_run call xm_c82 nL mc ms ret Q (f + 1) (xm_drop 98 xm_c82) lv st G E kc ks = ((match xm_get lv 0 with
    | some w => bif xm_isA w then xm_run call xm_c82 nL mc ms ret Q f (xm_drop 99 xm_c82) lv (w :: st) G E kc ks else false
    | none => false)) := rfl
theorem xz_82_99 : xm_run call xm_c82 nL mc ms ret Q (f + 1) (xm_drop 99 xm_c82) lv st G E kc ks = (xm_getf 9 0 st G (fun st => xm_run call xm_c82 nL mc ms ret Q f (xm_drop 100 xm_c82) lv st G E kc ks)) := rfl
theorem xz_82_100 : xm_run call xm_c82 nL mc ms ret Q (f + 1) (xm_drop 100 xm_c82) lv st G E kc ks = ((match xm_get lv 0 with
    | some w => bif xm_isA w then xm_run call xm_c82 nL mc ms ret Q f (xm_drop 101 xm_c82) lv (w :: st) G E kc ks else false
    | none => false)) := rfl
theorem xz_82_101 : xm_run call xm_c82 nL mc ms ret Q (f + 1) (xm_drop 101 xm_c82) lv st G E kc ks = (xm_getf 9 3 st G (fun st => xm_run call xm_c82 nL mc ms ret Q f (xm_drop 102 xm_c82) lv st G E kc ks)) := rfl
theorem xz_82_102 : xm_run call xm_c82 nL mc ms ret Q (f + 1) (xm_drop 102 xm_c82) lv st G E kc ks = ((match xm_get lv 0 with
    | some w => bif xm_isA w then xm_run call xm_c82 nL mc ms ret Q f (xm_drop 103 xm_c82) lv (w :: st) G E kc ks else false
    | none => false)) := rfl
theorem xz_82_103 : xm_run call xm_c82 nL mc ms ret Q (f + 1) (xm_drop 103 xm_c82) lv st G E kc ks = (xm_getf 9 4 st G (fun st => xm_run call xm_c82 nL mc ms ret Q f (xm_drop 104 xm_c82) lv st G E kc ks)) := rfl
theorem xz_82_104 : xm_run call xm_c82 nL mc ms ret Q (f + 1) (xm_drop 104 xm_c82) lv st G E kc ks = (xm_int2 .iadd st E (fun st E => xm_run call xm_c82 nL mc ms ret Q f (xm_drop 105 xm_c82) lv st G E kc ks)) := rfl
theorem xz_82_105 : xm_run call xm_c82 nL mc ms ret Q (f + 1) (xm_drop 105 xm_c82) lv st G E kc ks = (xm_bald st G E (fun st E => xm_run call xm_c82 nL mc ms ret Q f (xm_drop 106 xm_c82) lv st G E kc ks)) := rfl
theorem xz_82_106 : xm_run call xm_c82 nL mc ms ret Q (f + 1) (xm_drop 106 xm_c82) lv st G E kc ks = (xm_run call xm_c82 nL mc ms ret Q f (xm_drop 107 xm_c82) lv ((.int 122) :: st) G E kc ks) := rfl
theorem xz_82_107 : xm_run call xm_c82 nL mc ms ret Q (f + 1) (xm_drop 107 xm_c82) lv st G E kc ks = ((match st with
    | w :: u :: st => xm_cmpI E u w (fun E s => bif xm_holds .gt s then xm_run call xm_c82 nL mc ms ret Q f (xm_drop 183 xm_c82) lv st G E kc ks else xm_run call xm_c82 nL mc ms ret Q f (xm_drop 108 xm_c82) lv st G E kc ks)
    | _ => false)) := rfl
theorem xz_82_108 : xm_run call xm_c82 nL mc ms ret Q (f + 1) (xm_drop 108 xm_c82) lv st G E kc ks = ((match xm_get lv 0 with
    | some w => bif xm_isA w then xm_run call xm_c82 nL mc ms ret Q f (xm_drop 109 xm_c82) lv (w :: st) G E kc ks else false
    | none => false)) := rfl
theorem xz_82_109 : xm_run call xm_c82 nL mc ms ret Q (f + 1) (xm_drop 109 xm_c82) lv st G E kc ks = ((match st with
    | w :: st => bif xm_cat1 w then xm_run call xm_c82 nL mc ms ret Q f (xm_drop 110 xm_c82) lv (w :: w :: st) G E kc ks else false
    | _ => false)) := rfl
theorem xz_82_110 : xm_run call xm_c82 nL mc ms ret Q (f + 1) (xm_drop 110 xm_c82) lv st G E kc ks = (xm_getf 9 4 st G (fun st => xm_run call xm_c82 nL mc ms ret Q f (xm_drop 111 xm_c82) lv st G E kc ks)) := rfl
theorem xz_82_111 : xm_run call xm_c82 nL mc ms ret Q (f + 1) (xm_drop 111 xm_c82) lv st G E kc ks = (xm_run call xm_c82 nL mc ms ret Q f (xm_drop 112 xm_c82) lv ((.int 1) :: st) G E kc ks) := rfl
theorem xz_82_112 : xm_run call xm_c82 nL mc ms ret Q (f + 1) (xm_drop 112 xm_c82) lv st G E kc ks = (xm_int2 .iadd st E (fun st E => xm_run call xm_c82 nL mc ms ret Q f (xm_drop 113 xm_c82) lv st G E kc ks)) := rfl
theorem xz_82_113 : xm_run call xm_c82 nL mc ms ret Q (f + 1) (xm_drop 113 xm_c82) lv st G E kc ks = ((match st with
    | w :: .ref j :: st => (match xm_hget G j with
      | some (t, vs) => bif Nat.beq t 9 && (Nat.ble 7 j && (xm_fit (xm_ty t 4) w && Nat.blt 4 (xm_len vs))) then xm_run call xm_c82 nL mc ms ret Q f (xm_drop 114 xm_c82) lv st (xm_hput G j (t, xm_put w vs 4)) E kc ks else false
      | none => false)
    | _ => false)) := rfl
theorem xz_82_114 : xm_run call xm_c82 nL mc ms ret Q (f + 1) (xm_drop 114 xm_c82) lv st G E kc ks = (xm_run call xm_c82 nL mc ms ret Q f (xm_drop 80 xm_c82) lv st G E kc ks) := rfl
theorem xz_82_115 : xm_run call xm_c82 nL mc ms ret Q (f + 1) (xm_drop 115 xm_c82) lv st G E kc ks = ((match xm_get lv 1 with
    | some w => bif xm_isI w then xm_run call xm_c82 nL mc ms ret Q f (xm_drop 116 xm_c82) lv (w :: st) G E kc ks else false
    | none => false)) := rfl
theorem xz_82_116 : xm_run call xm_c82 nL mc ms ret Q (f + 1) (xm_drop 116 xm_c82) lv st G E kc ks = (xm_run call xm_c82 nL mc ms ret Q f (xm_drop 117 xm_c82) lv ((.int 48) :: st) G E kc ks) := rfl
theorem xz_82_117 : xm_run call xm_c82 nL mc ms ret Q (f + 1) (xm_drop 117 xm_c82) lv st G E kc ks = ((match st with
    | w :: u :: st => xm_cmpI E u w (fun E s => bif xm_holds .lt s then xm_run call xm_c82 nL mc ms ret Q f (xm_drop 159 xm_c82) lv st G E kc ks else xm_run call xm_c82 nL mc ms ret Q f (xm_drop 118 xm_c82) lv st G E kc ks)
    | _ => false)) := rfl
theorem xz_82_118 : xm_run call xm_c82 nL mc ms ret Q (f + 1) (xm_drop 118 xm_c82) lv st G E kc ks = ((match xm_get lv 1 with
    | some w => bif xm_isI w then xm_run call xm_c82 nL mc ms ret Q f (xm_drop 119 xm_c82) lv (w :: st) G E kc ks else false
    | none => false)) := rfl
theorem xz_82_119 : xm_run call xm_c82 nL mc ms ret Q (f + 1) (xm_drop 119 xm_c82) lv st G E kc ks = (xm_run call xm_c82 nL mc ms ret Q f (xm_drop 120 xm_c82) lv ((.int 57) :: st) G E kc ks) := rfl
theorem xz_82_120 : xm_run call xm_c82 nL mc ms ret Q (f + 1) (xm_drop 120 xm_c82) lv st G E kc ks = ((match st with
    | w :: u :: st => xm_cmpI E u w (fun E s => bif xm_holds .gt s then xm_run call xm_c82 nL mc ms ret Q f (xm_drop 159 xm_c82) lv st G E kc ks else xm_run call xm_c82 nL mc ms ret Q f (xm_drop 121 xm_c82) lv st G E kc ks)
    | _ => false)) := rfl
theorem xz_82_121 : xm_run call xm_c82 nL mc ms ret Q (f + 1) (xm_drop 121 xm_c82) lv st G E kc ks = ((match xm_get lv 0 with
    | some w => bif xm_isA w then xm_run call xm_c82 nL mc ms ret Q f (xm_drop 122 xm_c82) lv (w :: st) G E kc ks else false
    | none => false)) := rfl
theorem xz_82_122 : xm_run call xm_c82 nL mc ms ret Q (f + 1) (xm_drop 122 xm_c82) lv st G E kc ks = (xm_run call xm_c82 nL mc ms ret Q f (xm_drop 123 xm_c82) lv ((.int 48) :: st) G E kc ks) := rfl
theorem xz_82_123 : xm_run call xm_c82 nL mc ms ret Q (f + 1) (xm_drop 123 xm_c82) lv st G E kc ks = ((match st with
    | w :: .ref j :: st => (match xm_hget G j with
      | some (t, vs) => bif Nat.beq t 9 && (Nat.ble 7 j && (xm_fit (xm_ty t 2) w && Nat.blt 2 (xm_len vs))) then xm_run call xm_c82 nL mc ms ret Q f (xm_drop 124 xm_c82) lv st (xm_hput G j (t, xm_put w vs 2)) E kc ks else false
      | none => false)
    | _ => false)) := rfl
theorem xz_82_124 : xm_run call xm_c82 nL mc ms ret Q (f + 1) (xm_drop 124 xm_c82) lv st G E kc ks = ((match xm_get lv 0 with
    | some w => bif xm_isA w then xm_run call xm_c82 nL mc ms ret Q f (xm_drop 125 xm_c82) lv (w :: st) G E kc ks else false
    | none => false)) := rfl
theorem xz_82_125 : xm_run call xm_c82 nL mc ms ret Q (f + 1) (xm_drop 125 xm_c82) lv st G E kc ks = (xm_getf 9 3 st G (fun st => xm_run call xm_c82 nL mc ms ret Q f (xm_drop 126 xm_c82) lv st G E kc ks)) := rfl
theorem xz_82_126 : xm_run call xm_c82 nL mc ms ret Q (f + 1) (xm_drop 126 xm_c82) lv st G E kc ks = ((match xm_get lv 0 with
    | some w => bif xm_isA w then xm_run call xm_c82 nL mc ms ret Q f (xm_drop 127 xm_c82) lv (w :: st) G E kc ks else false
    | none => false)) := rfl
theorem xz_82_127 : xm_run call xm_c82 nL mc ms ret Q (f + 1) (xm_drop 127 xm_c82) lv st G E kc ks = (xm_getf 9 4 st G (fun st => xm_run call xm_c82 nL mc ms ret Q f (xm_drop 128 xm_c82) lv st G E kc ks)) := rfl
theorem xz_82_128 : xm_run call xm_c82 nL mc ms ret Q (f + 1) (xm_drop 128 xm_c82) lv st G E kc ks = (xm_int2 .iadd st E (fun st E => xm_run call xm_c82 nL mc ms ret Q f (xm_drop 129 xm_c82) lv st G E kc ks)) := rfl
theorem xz_82_129 : xm_run call xm_c82 nL mc ms ret Q (f + 1) (xm_drop 129 xm_c82) lv st G E kc ks = ((match xm_get lv 0 with
    | some w => bif xm_isA w then xm_run call xm_c82 nL mc ms ret Q f (xm_drop 130 xm_c82) lv (w :: st) G E kc ks else false
    | none => false)) := rfl
theorem xz_82_130 : xm_run call xm_c82 nL mc ms ret Q (f + 1) (xm_drop 130 xm_c82) lv st G E kc ks = (xm_getf 9 1 st G (fun st => xm_run call xm_c82 nL mc ms ret Q f (xm_drop 131 xm_c82) lv st G E kc ks)) := rfl
theorem xz_82_131 : xm_run call xm_c82 nL mc ms ret Q (f + 1) (xm_drop 131 xm_c82) lv st G E kc ks = ((match st with
    | w :: u :: st => xm_cmpI E u w (fun E s => bif xm_holds .ge s then xm_run call xm_c82 nL mc ms ret Q f (xm_drop 183 xm_c82) lv st G E kc ks else xm_run call xm_c82 nL mc ms ret Q f (xm_drop 132 xm_c82) lv st G E kc ks)
    | _ => false)) := rfl
theorem xz_82_132 : xm_run call xm_c82 nL mc ms ret Q (f + 1) (xm_drop 132 xm_c82) lv st G E kc ks = ((match xm_get lv 0 with
    | some w => bif xm_isA w then xm_run call xm_c82 nL mc ms ret Q f (xm_drop 133 xm_c82) lv (w :: st) G E kc ks else false
    | none => false)) := rfl
theorem xz_82_133 : xm_run call xm_c82 nL mc ms ret Q (f + 1) (xm_drop 133 xm_c82) lv st G E kc ks = (xm_getf 9 0 st G (fun st => xm_run call xm_c82 nL mc ms ret Q f (xm_drop 134 xm_c82) lv st G E kc ks)) := rfl
theorem xz_82_134 : xm_run call xm_c82 nL mc ms ret Q (f + 1) (xm_drop 134 xm_c82) lv st G E kc ks = ((match xm_get lv 0 with
    | some w => bif xm_isA w then xm_run call xm_c82 nL mc ms ret Q f (xm_drop 135 xm_c82) lv (w :: st) G E kc ks else false
    | none => false)) := rfl
theorem xz_82_135 : xm_run call xm_c82 nL mc ms ret Q (f + 1) (xm_drop 135 xm_c82) lv st G E kc ks = (xm_getf 9 3 st G (fun st => xm_run call xm_c82 nL mc ms ret Q f (xm_drop 136 xm_c82) lv st G E kc ks)) := rfl
theorem xz_82_136 : xm_run call xm_c82 nL mc ms ret Q (f + 1) (xm_drop 136 xm_c82) lv st G E kc ks = ((match xm_get lv 0 with
    | some w => bif xm_isA w then xm_run call xm_c82 nL mc ms ret Q f (xm_drop 137 xm_c82) lv (w :: st) G E kc ks else false
    | none => false)) := rfl
theorem xz_82_137 : xm_run call xm_c82 nL mc ms ret Q (f + 1) (xm_drop 137 xm_c82) lv st G E kc ks = (xm_getf 9 4 st G (fun st => xm_run call xm_c82 nL mc ms ret Q f (xm_drop 138 xm_c82) lv st G E kc ks)) := rfl
theorem xz_82_138 : xm_run call xm_c82 nL mc ms ret Q (f + 1) (xm_drop 138 xm_c82) lv st G E kc ks = (xm_int2 .iadd st E (fun st E => xm_run call xm_c82 nL mc ms ret Q f (xm_drop 139 xm_c82) lv st G E kc ks)) := rfl
theorem xz_82_139 : xm_run call xm_c82 nL mc ms ret Q (f + 1) (xm_drop 139 xm_c82) lv st G E kc ks = (xm_bald st G E (fun st E => xm_run call xm_c82 nL mc ms ret Q f (xm_drop 140 xm_c82) lv st G E kc ks)) := rfl
theorem xz_82_140 : xm_run call xm_c82 nL mc ms ret Q (f + 1) (xm_drop 140 xm_c82) lv st G E kc ks = (xm_run call xm_c82 nL mc ms ret Q f (xm_drop 141 xm_c82) lv ((.int 48) :: st) G E kc ks) := rfl
theorem xz_82_141 : xm_run call xm_c82 nL mc ms ret Q (f + 1) (xm_drop 141 xm_c82) lv st G E kc ks = ((match st with
    | w :: u :: st => xm_cmpI E u w (fun E s => bif xm_holds .lt s then xm_run call xm_c82 nL mc ms ret Q f (xm_drop 183 xm_c82) lv st G E kc ks else xm_run call xm_c82 nL mc ms ret Q f (xm_drop 142 xm_c82) lv st G E kc ks)
    | _ => false)) := rfl
theorem xz_82_142 : xm_run call xm_c82 nL mc ms ret Q (f + 1) (xm_drop 142 xm_c82) lv st G E kc ks = ((match xm_get lv 0 with
    | some w => bif xm_isA w then xm_run call xm_c82 nL mc ms ret Q f (xm_drop 143 xm_c82) lv (w :: st) G E kc ks else false
    | none => false)) := rfl
theorem xz_82_143 : xm_run call xm_c82 nL mc ms ret Q (f + 1) (xm_drop 143 xm_c82) lv st G E kc ks = (xm_getf 9 0 st G (fun st => xm_run call xm_c82 nL mc ms ret Q f (xm_drop 144 xm_c82) lv st G E kc ks)) := rfl
theorem xz_82_144 : xm_run call xm_c82 nL mc ms ret Q (f + 1) (xm_drop 144 xm_c82) lv st G E kc ks = ((match xm_get lv 0 with
    | some w => bif xm_isA w then xm_run call xm_c82 nL mc ms ret Q f (xm_drop 145 xm_c82) lv (w :: st) G E kc ks else false
    | none => false)) := rfl
theorem xz_82_145 : xm_run call xm_c82 nL mc ms ret Q (f + 1) (xm_drop 145 xm_c82) lv st G E kc ks = (xm_getf 9 3 st G (fun st => xm_run call xm_c82 nL mc ms ret Q f (xm_drop 146 xm_c82) lv st G E kc ks)) := rfl
theorem xz_82_146 : xm_run call xm_c82 nL mc ms ret Q (f + 1) (xm_drop 146 xm_c82) lv st G E kc ks = ((match xm_get lv 0 with
    | some w => bif xm_isA w then xm_run call xm_c82 nL mc ms ret Q f (xm_drop 147 xm_c82) lv (w :: st) G E kc ks else false
    | none => false)) := rfl
theorem xz_82_147 : xm_run call xm_c82 nL mc ms ret Q (f + 1) (xm_drop 147 xm_c82) lv st G E kc ks = (xm_getf 9 4 st G (fun st => xm_run call xm_c82 nL mc ms ret Q f (xm_drop 148 xm_c82) lv st G E kc ks)) := rfl
theorem xz_82_148 : xm_run call xm_c82 nL mc ms ret Q (f + 1) (xm_drop 148 xm_c82) lv st G E kc ks = (xm_int2 .iadd st E (fun st E => xm_run call xm_c82 nL mc ms ret Q f (xm_drop 149 xm_c82) lv st G E kc ks)) := rfl
theorem xz_82_149 : xm_run call xm_c82 nL mc ms ret Q (f + 1) (xm_drop 149 xm_c82) lv st G E kc ks = (xm_bald st G E (fun st E => xm_run call xm_c82 nL mc ms ret Q f (xm_drop 150 xm_c82) lv st G E kc ks)) := rfl
theorem xz_82_150 : xm_run call xm_c82 nL mc ms ret Q (f + 1) (xm_drop 150 xm_c82) lv st G E kc ks = (xm_run call xm_c82 nL mc ms ret Q f (xm_drop 151 xm_c82) lv ((.int 57) :: st) G E kc ks) := rfl
theorem xz_82_151 : xm_run call xm_c82 nL mc ms ret Q (f + 1) (xm_drop 151 xm_c82) lv st G E kc ks = ((match st with
    | w :: u :: st => xm_cmpI E u w (fun E s => bif xm_holds .gt s then xm_run call xm_c82 nL mc ms ret Q f (xm_drop 183 xm_c82) lv st G E kc ks else xm_run call xm_c82 nL mc ms ret Q f (xm_drop 152 xm_c82) lv st G E kc ks)
    | _ => false)) := rfl
theorem xz_82_152 : xm_run call xm_c82 nL mc ms ret Q (f + 1) (xm_drop 152 xm_c82) lv st G E kc ks = ((match xm_get lv 0 with
    | some w => bif xm_isA w then xm_run call xm_c82 nL mc ms ret Q f (xm_drop 153 xm_c82) lv (w :: st) G E kc ks else false
    | none => false)) := rfl
theorem xz_82_153 : xm_run call xm_c82 nL mc ms ret Q (f + 1) (xm_drop 153 xm_c82) lv st G E kc ks = ((match st with
    | w :: st => bif xm_cat1 w then xm_run call xm_c82 nL mc ms ret Q f (xm_drop 154 xm_c82) lv (w :: w :: st) G E kc ks else false
    | _ => false)) := rfl
theorem xz_82_154 : xm_run call xm_c82 nL mc ms ret Q (f + 1) (xm_drop 154 xm_c82) lv st G E kc ks = (xm_getf 9 4 st G (fun st => xm_run call xm_c82 nL mc ms ret Q f (xm_drop 155 xm_c82) lv st G E kc ks)) := rfl
theorem xz_82_155 : xm_run call xm_c82 nL mc ms ret Q (f + 1) (xm_drop 155 xm_c82) lv st G E kc ks = (xm_run call xm_c82 nL mc ms ret Q f (xm_drop 156 xm_c82) lv ((.int 1) :: st) G E kc ks) := rfl
theorem xz_82_156 : xm_run call xm_c82 nL mc ms ret Q (f + 1) (xm_drop 156 xm_c82) lv st G E kc ks = (xm_int2 .iadd st E (fun st E => xm_run call xm_c82 nL mc ms ret Q f (xm_drop 157 xm_c82) lv st G E kc ks)) := rfl
theorem xz_82_157 : xm_run call xm_c82 nL mc ms ret Q (f + 1) (xm_drop 157 xm_c82) lv st G E kc ks = ((match st with
    | w :: .ref j :: st => (match xm_hget G j with
      | some (t, vs) => bif Nat.beq t 9 && (Nat.ble 7 j && (xm_fit (xm_ty t 4) w && Nat.blt 4 (xm_len vs))) then xm_run call xm_c82 nL mc ms ret Q f (xm_drop 158 xm_c82) lv st (xm_hput G j (t, xm_put w vs 4)) E kc ks else false
      | none => false)
    | _ => false)) := rfl
theorem xz_82_158 : xm_run call xm_c82 nL mc ms ret Q (f + 1) (xm_drop 158 xm_c82) lv st G E kc ks = (xm_run call xm_c82 nL mc ms ret Q f (xm_drop 124 xm_c82) lv st G E kc ks) := rfl
theorem xz_82_159 : xm_run call xm_c82 nL mc ms ret Q (f + 1) (xm_drop 159 xm_c82) lv st G E kc ks = ((match xm_get lv 2 with
    | some w => bif xm_isI w then xm_run call xm_c82 nL mc ms ret Q f (xm_drop 160 xm_c82) lv (w :: st) G E kc ks else false
    | none => false)) := rfl
theorem xz_82_160 : xm_run call xm_c82 nL mc ms ret Q (f + 1) (xm_drop 160 xm_c82) lv st G E kc ks = (xm_run call xm_c82 nL mc ms ret Q f (xm_drop 161 xm_c82) lv ((.int 61) :: st) G E kc ks) := rfl
theorem xz_82_161 : xm_run call xm_c82 nL mc ms ret Q (f + 1) (xm_drop 161 xm_c82) lv st G E kc ks = ((match st with
    | w :: u :: st => xm_cmpI E u w (fun E s => bif xm_holds .ne s then xm_run call xm_c82 nL mc ms ret Q f (xm_drop 180 xm_c82) lv st G E kc ks else xm_run call xm_c82 nL mc ms ret Q f (xm_drop 162 xm_c82) lv st G E kc ks)
    | _ => false)) := rfl
theorem xz_82_162 : xm_run call xm_c82 nL mc ms ret Q (f + 1) (xm_drop 162 xm_c82) lv st G E kc ks = ((match xm_get lv 1 with
    | some w => bif xm_isI w then xm_run call xm_c82 nL mc ms ret Q f (xm_drop 163 xm_c82) lv (w :: st) G E kc ks else false
    | none => false)) := rfl
theorem xz_82_163 : xm_run call xm_c82 nL mc ms ret Q (f + 1) (xm_drop 163 xm_c82) lv st G E kc ks = (xm_run call xm_c82 nL mc ms ret Q f (xm_drop 164 xm_c82) lv ((.int 60) :: st) G E kc ks) := rfl
theorem xz_82_164 : xm_run call xm_c82 nL mc ms ret Q (f + 1) (xm_drop 164 xm_c82) lv st G E kc ks = ((match st with
    | w :: u :: st => xm_cmpI E u w (fun E s => bif xm_holds .eq s then xm_run call xm_c82 nL mc ms ret Q f (xm_drop 168 xm_c82) lv st G E kc ks else xm_run call xm_c82 nL mc ms ret Q f (xm_drop 165 xm_c82) lv st G E kc ks)
    | _ => false)) := rfl
theorem xz_82_165 : xm_run call xm_c82 nL mc ms ret Q (f + 1) (xm_drop 165 xm_c82) lv st G E kc ks = ((match xm_get lv 1 with
    | some w => bif xm_isI w then xm_run call xm_c82 nL mc ms ret Q f (xm_drop 166 xm_c82) lv (w :: st) G E kc ks else false
    | none => false)) := rfl
theorem xz_82_166 : xm_run call xm_c82 nL mc ms ret Q (f + 1) (xm_drop 166 xm_c82) lv st G E kc ks = (xm_run call xm_c82 nL mc ms ret Q f (xm_drop 167 xm_c82) lv ((.int 62) :: st) G E kc ks) := rfl
theorem xz_82_167 : xm_run call xm_c82 nL mc ms ret Q (f + 1) (xm_drop 167 xm_c82) lv st G E kc ks = ((match st with
    | w :: u :: st => xm_cmpI E u w (fun E s => bif xm_holds .ne s then xm_run call xm_c82 nL mc ms ret Q f (xm_drop 180 xm_c82) lv st G E kc ks else xm_run call xm_c82 nL mc ms ret Q f (xm_drop 168 xm_c82) lv st G E kc ks)
    | _ => false)) := rfl
theorem xz_82_168 : xm_run call xm_c82 nL mc ms ret Q (f + 1) (xm_drop 168 xm_c82) lv st G E kc ks = ((match xm_get lv 0 with
    | some w => bif xm_isA w then xm_run call xm_c82 nL mc ms ret Q f (xm_drop 169 xm_c82) lv (w :: st) G E kc ks else false
    | none => false)) := rfl
theorem xz_82_169 : xm_run call xm_c82 nL mc ms ret Q (f + 1) (xm_drop 169 xm_c82) lv st G E kc ks = ((match xm_get lv 1 with
    | some w => bif xm_isI w then xm_run call xm_c82 nL mc ms ret Q f (xm_drop 170 xm_c82) lv (w :: st) G E kc ks else false
    | none => false)) := rfl
theorem xz_82_170 : xm_run call xm_c82 nL mc ms ret Q (f + 1) (xm_drop 170 xm_c82) lv st G E kc ks = (xm_run call xm_c82 nL mc ms ret Q f (xm_drop 171 xm_c82) lv ((.int 60) :: st) G E kc ks) := rfl
theorem xz_82_171 : xm_run call xm_c82 nL mc ms ret Q (f + 1) (xm_drop 171 xm_c82) lv st G E kc ks = ((match st with
    | w :: u :: st => xm_cmpI E u w (fun E s => bif xm_holds .ne s then xm_run call xm_c82 nL mc ms ret Q f (xm_drop 174 xm_c82) lv st G E kc ks else xm_run call xm_c82 nL mc ms ret Q f (xm_drop 172 xm_c82) lv st G E kc ks)
    | _ => false)) := rfl
theorem xz_82_172 : xm_run call xm_c82 nL mc ms ret Q (f + 1) (xm_drop 172 xm_c82) lv st G E kc ks = (xm_run call xm_c82 nL mc ms ret Q f (xm_drop 173 xm_c82) lv ((.int 256) :: st) G E kc ks) := rfl
theorem xz_82_173 : xm_run call xm_c82 nL mc ms ret Q (f + 1) (xm_drop 173 xm_c82) lv st G E kc ks = (xm_run call xm_c82 nL mc ms ret Q f (xm_drop 175 xm_c82) lv st G E kc ks) := rfl
theorem xz_82_174 : xm_run call xm_c82 nL mc ms ret Q (f + 1) (xm_drop 174 xm_c82) lv st G E kc ks = (xm_run call xm_c82 nL mc ms ret Q f (xm_drop 175 xm_c82) lv ((.int 257) :: st) G E kc ks) := rfl
theorem xz_82_175 : xm_run call xm_c82 nL mc ms ret Q (f + 1) (xm_drop 175 xm_c82) lv st G E kc ks = ((match st with
    | w :: .ref j :: st => (match xm_hget G j with
      | some (t, vs) => bif Nat.beq t 9 && (Nat.ble 7 j && (xm_fit (xm_ty t 2) w && Nat.blt 2 (xm_len vs))) then xm_run call xm_c82 nL mc ms ret Q f (xm_drop 176 xm_c82) lv st (xm_hput G j (t, xm_put w vs 2)) E kc ks else false
      | none => false)
    | _ => false)) := rfl
theorem xz_82_176 : xm_run call xm_c82 nL mc ms ret Q (f + 1) (xm_drop 176 xm_c82) lv st G E kc ks = ((match xm_get lv 0 with
    | some w => bif xm_isA w then xm_run call xm_c82 nL mc ms ret Q f (xm_drop 177 xm_c82) lv (w :: st) G E kc ks else false
    | none => false)) := rfl
theorem xz_82_177 : xm_run call xm_c82 nL mc ms ret Q (f + 1) (xm_drop 177 xm_c82) lv st G E kc ks = (xm_run call xm_c82 nL mc ms ret Q f (xm_drop 178 xm_c82) lv ((.int 2) :: st) G E kc ks) := rfl
theorem xz_82_178 : xm_run call xm_c82 nL mc ms ret Q (f + 1) (xm_drop 178 xm_c82) lv st G E kc ks = ((match st with
    | w :: .ref j :: st => (match xm_hget G j with
      | some (t, vs) => bif Nat.beq t 9 && (Nat.ble 7 j && (xm_fit (xm_ty t 4) w && Nat.blt 4 (xm_len vs))) then xm_run call xm_c82 nL mc ms ret Q f (xm_drop 179 xm_c82) lv st (xm_hput G j (t, xm_put w vs 4)) E kc ks else false
      | none => false)
    | _ => false)) := rfl
theorem xz_82_179 : xm_run call xm_c82 nL mc ms ret Q (f + 1) (xm_drop 179 xm_c82) lv st G E kc ks = (xm_run call xm_c82 nL mc ms ret Q f (xm_drop 183 xm_c82) lv st G E kc ks) := rfl
theorem xz_82_180 : xm_run call xm_c82 nL mc ms ret Q (f + 1) (xm_drop 180 xm_c82) lv st G E kc ks = ((match xm_get lv 0 with
    | some w => bif xm_isA w then xm_run call xm_c82 nL mc ms ret Q f (xm_drop 181 xm_c82) lv (w :: st) G E kc ks else false
    | none => false)) := rfl
theorem xz_82_181 : xm_run call xm_c82 nL mc ms ret Q (f + 1) (xm_drop 181 xm_c82) lv st G E kc ks = ((match xm_get lv 1 with
    | some w => bif xm_isI w then xm_run call xm_c82 nL mc ms ret Q f (xm_drop 182 xm_c82) lv (w :: st) G E kc ks else false
    | none => false)) := rfl
theorem xz_82_182 : xm_run call xm_c82 nL mc ms ret Q (f + 1) (xm_drop 182 xm_c82) lv st G E kc ks = ((match st with
    | w :: .ref j :: st => (match xm_hget G j with
      | some (t, vs) => bif Nat.beq t 9 && (Nat.ble 7 j && (xm_fit (xm_ty t 2) w && Nat.blt 2 (xm_len vs))) then xm_run call xm_c82 nL mc ms ret Q f (xm_drop 183 xm_c82) lv st (xm_hput G j (t, xm_put w vs 2)) E kc ks else false
      | none => false)
    | _ => false)) := rfl
theorem xz_82_183 : xm_run call xm_c82 nL mc ms ret Q (f + 1) (xm_drop 183 xm_c82) lv st G E kc ks = ((match st with
    | [] => bif ret.isNone && (Nat.ble kc mc && Nat.ble ks ms) then Q none G E else false
    | _ => false)) := rfl
theorem xz_120_0 : xm_run call xm_c120 nL mc ms ret Q (f + 1) (xm_drop 0 xm_c120) lv st G E kc ks = ((match xm_get lv 0 with
    | some w => bif xm_isI w then xm_run call xm_c120 nL mc ms ret Q f (xm_drop 1 xm_c120) lv (w :: st) G E kc ks else false
    | none => false)) := rfl
theorem xz_120_1 : xm_run call xm_c120 nL mc ms ret Q (f + 1) (xm_drop 1 xm_c120) lv st G E kc ks = ((match xm_get lv 1 with
    | some w => bif xm_isI w then xm_run call xm_c120 nL mc ms ret Q f (xm_drop 2 xm_c120) lv (w :: st) G E kc ks else false
    | none => false)) := rfl
theorem xz_120_2 : xm_run call xm_c120 nL mc ms ret Q (f + 1) (xm_drop 2 xm_c120) lv st G E kc ks = (xm_ishr st E (fun st E => xm_run call xm_c120 nL mc ms ret Q f (xm_drop 3 xm_c120) lv st G E kc ks)) := rfl
theorem xz_120_3 : xm_run call xm_c120 nL mc ms ret Q (f + 1) (xm_drop 3 xm_c120) lv st G E kc ks = (xm_run call xm_c120 nL mc ms ret Q f (xm_drop 4 xm_c120) lv ((.int 1) :: st) G E kc ks) := rfl
theorem xz_120_4 : xm_run call xm_c120 nL mc ms ret Q (f + 1) (xm_drop 4 xm_c120) lv st G E kc ks = (xm_iand st E (fun st E => xm_run call xm_c120 nL mc ms ret Q f (xm_drop 5 xm_c120) lv st G E kc ks)) := rfl
theorem xz_120_5 : xm_run call xm_c120 nL mc ms ret Q (f + 1) (xm_drop 5 xm_c120) lv st G E kc ks = ((match st with
    | [w] => bif xm_isI w && (xm_rok ret w && (Nat.ble kc mc && Nat.ble ks ms)) then Q (some w) G E else false
    | _ => false)) := rfl
end XM
end
section
section XT
theorem xg_hit {i : Nat} {v : Value} {l : xm_L} : xm_get ((i, v) :: l) i = some v := by
  show cond (Nat.beq i i) (some v) (xm_get l i) = some v
  rw [Nat.beq_refl]
  rfl
theorem xg_miss {i j : Nat} {v : Value} {l : xm_L} (h : Nat.beq i j = false) : xm_get ((i, v) :: l) j = xm_get l j := by
  show cond (Nat.beq i j) (some v) (xm_get l j) = xm_get l j
  rw [h]
  rfl
theorem xh_lt (x y : Int32) : xm_holds .lt (xm_sgn x.toInt y.toInt) = decide (x < y) := by
  have h := (xs_holds x y).2.2.1
  by_cases c : x < y
  · rw [decide_eq_true c]; exact h.mpr c
  · rw [decide_eq_false c]; exact Bool.eq_false_iff.mpr (fun q => c (h.mp q))
theorem xh_ge (x y : Int32) : xm_holds .ge (xm_sgn x.toInt y.toInt) = decide (y ≤ x) := by
  have h := (xs_holds x y).2.2.2.1
  by_cases c : y ≤ x
  · rw [decide_eq_true c]; exact h.mpr c
  · rw [decide_eq_false c]; exact Bool.eq_false_iff.mpr (fun q => c (h.mp q))
theorem xc_int {E : xm_R} {x y : Int32} {k : xm_R → Int → Bool} : xm_cmpI E (.int x) (.int y) k = k E (xm_sgn x.toInt y.toInt) := rfl
theorem xt_hasPerson {call : xm_C} {Q : xm_Q} {f j : Nat} {vs : List Value} {G : xm_H} {E : xm_R} {p n : Int32} (hG : xm_hget G j = some (3, vs)) (hn : vs[1]? = some (.int n)) : xm_run call xm_c23 2 0 0 (some .boolean) Q (f + 20) (xm_drop 0 xm_c23) [(0, .ref j), (1, .int p)] [] G E 0 0 = Q (some (.int (if ¬ p < 0 ∧ ¬ n ≤ p then 1 else 0))) G E := by
  simp only [xz_23_0, xz_23_1, xz_23_2, xz_23_3, xz_23_4, xz_23_5, xz_23_6, xz_23_7, xz_23_8, xz_23_9, xg_hit, xg_miss (i := 0) (j := 1) rfl, xm_isI, xm_isA, cond_true, xc_int, xh_lt, xh_ge, xm_getf, hG, xl_nth, hn, Nat.beq_refl, xm_rok, xm_fit]
  by_cases h1 : p < 0
  · simp [h1]
  · by_cases h2 : n ≤ p
    · simp [h1, h2]
    · simp [h1, h2]
end XT
end
section
/-! AN INTERVAL MACHINE over the little one: a value may be a number of which a range is known (.retAddr k an int, .double k a long; the ranges in a store); what is read from a row is a fresh number of the row's range; results of reckoning are fresh numbers -/
abbrev ym_S : Type := Nat × List (List (Option (Int × Int)))
noncomputable def ym_ck (S : List (List (Option (Int × Int)))) (j : Nat) : List (Option (Int × Int)) := match xm_nth S j with
  | some c => c
  | none => []
noncomputable def ym_get (S : ym_S) (j : Nat) : Option (Int × Int) := xm_jn (xm_nth (ym_ck S.2 (Nat.div j 16)) (Nat.mod j 16))
noncomputable def ym_sput (S : List (List (Option (Int × Int)))) (j : Nat) (o : Int × Int) : List (List (Option (Int × Int))) := xm_putx [] (xm_putx none (some o) (ym_ck S (Nat.div j 16)) (Nat.mod j 16)) S (Nat.div j 16)
noncomputable def ym_put (S : ym_S) (j : Nat) (o : Int × Int) : ym_S := (S.1, ym_sput S.2 j o)
noncomputable def ym_new (S : ym_S) (o : Int × Int) : ym_S := (Nat.succ S.1, ym_sput S.2 S.1 o)
def ym_i32 (r : Int × Int) : Bool := decide (-2147483648 ≤ r.1) && decide (r.2 ≤ 2147483647)
def ym_i64 (r : Int × Int) : Bool := decide (-9223372036854775808 ≤ r.1) && decide (r.2 ≤ 9223372036854775807)
/-- an int's range -/
noncomputable def ym_ri (E : ym_S) (v : Value) : Option (Int × Int) := match v with
  | .int c => some (c.toInt, c.toInt)
  | .retAddr k => (match ym_get E k with
    | some r => bif ym_i32 r then some r else none
    | none => none)
  | _ => none
noncomputable def ym_rl (E : ym_S) (v : Value) : Option (Int × Int) := match v with
  | .long c => some (c.toInt, c.toInt)
  | .double k => (match ym_get E k.toNat with
    | some r => bif ym_i64 r then some r else none
    | none => none)
  | _ => none
/-- a fresh int -/
noncomputable def ym_mi (E : ym_S) (r : Int × Int) (k : ym_S → Value → Bool) : Bool :=
  bif ym_i32 r then (bif decide (r.1 = r.2) then k E (.int (Int32.ofInt r.1)) else k (ym_new E r) (.retAddr E.1)) else k (ym_new E (-2147483648, 2147483647)) (.retAddr E.1)
noncomputable def ym_ml (E : ym_S) (r : Int × Int) (k : ym_S → Value → Bool) : Bool :=
  bif ym_i64 r then (bif decide (r.1 = r.2) then k E (.long (Int64.ofInt r.1)) else k (ym_new E r) (.double (UInt64.ofNat E.1))) else k (ym_new E (-9223372036854775808, 9223372036854775807)) (.double (UInt64.ofNat E.1))
/-- a number's range becomes narrower -/
noncomputable def ym_nar (E : ym_S) (v : Value) (r : Int × Int) : ym_S := match v with
  | .retAddr k => ym_put E k r
  | .double k => ym_put E k.toNat r
  | _ => E
/-- less, alike, more: each way that can be, with what it tells of both -/
noncomputable def ym_cmp (E : ym_S) (v w : Value) (a b : Int × Int) (k : ym_S → Int → Bool) : Bool :=
  and (bif decide (a.1 < b.2) then k (ym_nar (ym_nar E v (a.1, min a.2 (b.2 - 1))) w (max b.1 (a.1 + 1), b.2)) (-1) else true)
    (and (bif decide (a.1 ≤ b.2) && decide (b.1 ≤ a.2) then k (ym_nar (ym_nar E v (max a.1 b.1, min a.2 b.2)) w (max a.1 b.1, min a.2 b.2)) 0 else true)
      (bif decide (b.1 < a.2) then k (ym_nar (ym_nar E v (max a.1 (b.1 + 1), a.2)) w (b.1, min b.2 (a.2 - 1))) 1 else true))
noncomputable def ym_cmpI (E : ym_S) (v w : Value) (k : ym_S → Int → Bool) : Bool := bif decide (v = w) then k E 0 else (match ym_ri E v, ym_ri E w with
  | some a, some b => ym_cmp E v w a b k
  | _, _ => false)
noncomputable def ym_cmpL (E : ym_S) (v w : Value) (k : ym_S → Int → Bool) : Bool := bif decide (v = w) then k E 0 else (match ym_rl E v, ym_rl E w with
  | some a, some b => ym_cmp E v w a b k
  | _, _ => false)
/-- a number taken as each that it can be -/
noncomputable def ym_conc (E : ym_S) (v : Value) (k : ym_S → Int → Bool) : Bool := match ym_ri E v with
  | some r => bif decide (r.2 - r.1 < 1024) then xm_all r.1 (r.2 - r.1 + 1).toNat (fun c => k (ym_nar E v (c, c)) c) else false
  | none => false
/-- the least number of all ones that is not below n -/
noncomputable def ym_ones (n : Int) : Int := Int.ofNat (2 ^ (Nat.log2 n.toNat + 1) - 1)
def ym_mul4 (a b : Int × Int) : Int × Int := (min (min (a.1 * b.1) (a.1 * b.2)) (min (a.2 * b.1) (a.2 * b.2)), max (max (a.1 * b.1) (a.1 * b.2)) (max (a.2 * b.1) (a.2 * b.2)))
/-- the range of an int operation's answer -/
noncomputable def ym_iop (i : Instr) (a b : Int × Int) : Option (Int × Int) := match i with
  | .iadd => some (a.1 + b.1, a.2 + b.2)
  | .isub => some (a.1 - b.2, a.2 - b.1)
  | .imul => some (ym_mul4 a b)
  | .iand => bif decide (0 ≤ a.1) then some (0, bif decide (0 ≤ b.1) then min a.2 b.2 else a.2) else bif decide (0 ≤ b.1) then some (0, b.2) else some (-2147483648, 2147483647)
  | .ior => bif decide (0 ≤ a.1) && decide (0 ≤ b.1) then some (0, ym_ones (max a.2 b.2)) else some (-2147483648, 2147483647)
  | .ixor => bif decide (0 ≤ a.1) && decide (0 ≤ b.1) then some (0, ym_ones (max a.2 b.2)) else some (-2147483648, 2147483647)
  | .ishl => some (-2147483648, 2147483647)
  | .ishr => bif decide (0 ≤ a.1) then some (0, a.2) else some (-2147483648, 2147483647)
  | .iushr => some (-2147483648, 2147483647)
  | .idiv => bif decide (1 ≤ b.1) && decide (0 ≤ a.1) then some (0, a.2) else none
  | .irem => bif decide (1 ≤ b.1) && decide (0 ≤ a.1) then some (0, min a.2 (b.2 - 1)) else none
  | _ => none
end
section
/-! what the interval machine's numbers stand for -/
theorem yl_ck (S : List (List (Option (Int × Int)))) (j : Nat) (o : Int × Int) (i : Nat) : ym_ck (ym_sput S j o) (i / 16) = if i / 16 = j / 16 then xm_putx none (some o) (ym_ck S (j / 16)) (j % 16) else ym_ck S (i / 16) := by
  have h := xl_putx [] (xm_putx none (some o) (ym_ck S (Nat.div j 16)) (Nat.mod j 16)) S (Nat.div j 16) (i / 16)
  by_cases e : i / 16 = j / 16
  · rw [if_pos e]
    have h1 := h.1 e
    unfold ym_ck ym_sput
    rw [h1]
    rfl
  · rw [if_neg e]
    rcases h.2 e with h1 | ⟨h1, h2⟩
    · unfold ym_ck ym_sput
      rw [h1]
    · unfold ym_ck ym_sput
      rw [h1, h2]
theorem yl_sput (n m : Nat) (S : List (List (Option (Int × Int)))) (j : Nat) (o : Int × Int) (i : Nat) : ym_get (n, ym_sput S j o) i = if i = j then some o else ym_get (m, S) i := by
  show xm_jn (xm_nth (ym_ck (ym_sput S j o) (i / 16)) (i % 16)) = _
  rw [yl_ck]
  by_cases e : i / 16 = j / 16
  · rw [if_pos e]
    have h := xl_putx none (some o) (ym_ck S (j / 16)) (j % 16) (i % 16)
    by_cases e2 : i % 16 = j % 16
    · have e3 : i = j := by omega
      rw [if_pos e3, h.1 e2]
      rfl
    · have e3 : ¬ i = j := fun q => e2 (by rw [q])
      rw [if_neg e3]
      show _ = xm_jn (xm_nth (ym_ck S (i / 16)) (i % 16))
      rw [e]
      rcases h.2 e2 with h1 | ⟨h1, h2⟩
      · rw [h1]
      · rw [h1, h2]
        rfl
  · rw [if_neg e, if_neg (fun q => e (by rw [q]))]
    rfl
theorem yl_put (E : ym_S) (j : Nat) (o : Int × Int) (i : Nat) : ym_get (ym_put E j o) i = if i = j then some o else ym_get E i := yl_sput E.1 E.1 E.2 j o i
theorem yl_new (E : ym_S) (o : Int × Int) (i : Nat) : ym_get (ym_new E o) i = if i = E.1 then some o else ym_get E i := yl_sput _ E.1 E.2 E.1 o i
def ys_cv (y : Nat → Int) (v : Value) : Value := match v with
  | .retAddr k => .int (Int32.ofInt (y k))
  | .double u => .long (Int64.ofInt (y u.toNat))
  | .int x => .int x
  | .long x => .long x
  | .ref j => .ref j
  | .null => .null
  | .float u => .float u
/-- its numbers are among the first n -/
def ys_in (n : Nat) (v : Value) : Prop := match v with
  | .retAddr k => k < n
  | .double u => u.toNat < n
  | .float _ => False
  | _ => True
def ys_sat (y : Nat → Int) (E : ym_S) : Prop := ∀ (k : Nat) (r : Int × Int), ym_get E k = some r → k < E.1 ∧ r.1 ≤ y k ∧ y k ≤ r.2
def ys_ext (n : Nat) (y y' : Nat → Int) : Prop := ∀ k, k < n → y' k = y k
section YS
variable {y : Nat → Int} {E : ym_S} {v w : Value}
theorem ys_cv_ext {y' : Nat → Int} {n : Nat} (h : ys_ext n y y') (hv : ys_in n v) : ys_cv y' v = ys_cv y v := by
  cases v with
  | retAddr k => show Value.int _ = Value.int _; rw [h k hv]
  | double u => show Value.long _ = Value.long _; rw [h u.toNat hv]
  | _ => rfl
theorem ys_in_le {n n' : Nat} (h : n ≤ n') (hv : ys_in n v) : ys_in n' v := by
  cases v with
  | retAddr k => exact Nat.lt_of_lt_of_le hv h
  | double u => exact Nat.lt_of_lt_of_le hv h
  | float u => exact hv
  | _ => trivial
theorem ys_of32 {z : Int} (h1 : -2147483648 ≤ z) (h2 : z ≤ 2147483647) : (Int32.ofInt z).toInt = z := by
  exact Int32.toInt_ofInt_of_le (by omega) (by omega)
theorem ys_of64 {z : Int} (h1 : -9223372036854775808 ≤ z) (h2 : z ≤ 9223372036854775807) : (Int64.ofInt z).toInt = z := by
  exact Int64.toInt_ofInt_of_le (by omega) (by omega)
theorem ys_ri {r : Int × Int} (h : ym_ri E v = some r) (hs : ys_sat y E) : ∃ x : Int32, ys_cv y v = .int x ∧ r.1 ≤ x.toInt ∧ x.toInt ≤ r.2 := by
  cases v with
  | int c =>
    cases h
    exact ⟨c, rfl, Int.le_refl _, Int.le_refl _⟩
  | retAddr k =>
    have h : (match ym_get E k with
      | some r => bif ym_i32 r then some r else none
      | none => none) = some r := h
    cases hk : ym_get E k with
    | none => rw [hk] at h; cases h
    | some q =>
      rw [hk] at h
      dsimp only at h
      cases hc : ym_i32 q with
      | false => rw [hc] at h; cases h
      | true =>
        rw [hc] at h
        cases h
        obtain ⟨-, h1, h2⟩ := hs k _ hk
        unfold ym_i32 at hc
        rw [Bool.and_eq_true, decide_eq_true_eq, decide_eq_true_eq] at hc
        have e := ys_of32 (z := y k) (by omega) (by omega)
        exact ⟨_, rfl, by rw [e]; exact h1, by rw [e]; exact h2⟩
  | _ => cases h
theorem ys_rl {r : Int × Int} (h : ym_rl E v = some r) (hs : ys_sat y E) : ∃ x : Int64, ys_cv y v = .long x ∧ r.1 ≤ x.toInt ∧ x.toInt ≤ r.2 := by
  cases v with
  | long c =>
    cases h
    exact ⟨c, rfl, Int.le_refl _, Int.le_refl _⟩
  | double k =>
    have h : (match ym_get E k.toNat with
      | some r => bif ym_i64 r then some r else none
      | none => none) = some r := h
    cases hk : ym_get E k.toNat with
    | none => rw [hk] at h; cases h
    | some q =>
      rw [hk] at h
      dsimp only at h
      cases hc : ym_i64 q with
      | false => rw [hc] at h; cases h
      | true =>
        rw [hc] at h
        cases h
        obtain ⟨-, h1, h2⟩ := hs k.toNat _ hk
        unfold ym_i64 at hc
        rw [Bool.and_eq_true, decide_eq_true_eq, decide_eq_true_eq] at hc
        have e := ys_of64 (z := y k.toNat) (by omega) (by omega)
        exact ⟨_, rfl, by rw [e]; exact h1, by rw [e]; exact h2⟩
  | _ => cases h
/-- a number more -/
theorem ys_sat_new {r : Int × Int} {z : Int} (hs : ys_sat y E) (h1 : r.1 ≤ z) (h2 : z ≤ r.2) : ys_sat (fun k => if k = E.1 then z else y k) (ym_new E r) ∧ ys_ext E.1 y (fun k => if k = E.1 then z else y k) := by
  refine ⟨fun k q hk => ?_, fun k hk => if_neg (Nat.ne_of_lt hk)⟩
  rw [yl_new] at hk
  by_cases e : k = E.1
  · rw [if_pos e] at hk
    cases hk
    dsimp only
    rw [if_pos e, e]
    exact ⟨Nat.lt_succ_self _, h1, h2⟩
  · rw [if_neg e] at hk
    obtain ⟨a1, a2⟩ := hs k _ hk
    dsimp only
    rw [if_neg e]
    exact ⟨Nat.lt_succ_of_lt a1, a2⟩
theorem ys_b32 (x : Int32) : -2147483648 ≤ x.toInt ∧ x.toInt ≤ 2147483647 := by
  have h1 := Int32.le_toInt x
  have h2 := Int32.toInt_lt x
  omega
theorem ys_b64 (x : Int64) : -9223372036854775808 ≤ x.toInt ∧ x.toInt ≤ 9223372036854775807 := by
  have h1 := Int64.le_toInt x
  have h2 := Int64.toInt_lt x
  omega
theorem ys_mi {r : Int × Int} {k : ym_S → Value → Bool} (h : ym_mi E r k = true) (hs : ys_sat y E) (x : Int32) (hx : ym_i32 r = true → r.1 ≤ x.toInt ∧ x.toInt ≤ r.2) : ∃ E' v y', k E' v = true ∧ ys_sat y' E' ∧ ys_cv y' v = .int x ∧ ys_in E'.1 v ∧ E.1 ≤ E'.1 ∧ ys_ext E.1 y y' := by
  unfold ym_mi at h
  cases hc : ym_i32 r with
  | true =>
    rw [hc, cond_true] at h
    obtain ⟨h1, h2⟩ := hx hc
    by_cases e : r.1 = r.2
    · rw [decide_eq_true e, cond_true] at h
      refine ⟨E, _, y, h, hs, ?_, trivial, Nat.le_refl _, fun _ _ => rfl⟩
      show Value.int (Int32.ofInt r.1) = .int x
      rw [show r.1 = x.toInt by omega, Int32.ofInt_toInt]
    · rw [decide_eq_false e, cond_false] at h
      obtain ⟨s1, s2⟩ := ys_sat_new (z := x.toInt) hs h1 h2
      refine ⟨_, _, _, h, s1, ?_, Nat.lt_succ_self _, Nat.le_succ _, s2⟩
      show Value.int (Int32.ofInt (if E.1 = E.1 then x.toInt else y E.1)) = .int x
      rw [if_pos rfl, Int32.ofInt_toInt]
  | false =>
    rw [hc, cond_false] at h
    obtain ⟨b1, b2⟩ := ys_b32 x
    obtain ⟨s1, s2⟩ := ys_sat_new (r := (-2147483648, 2147483647)) (z := x.toInt) hs b1 b2
    refine ⟨_, _, _, h, s1, ?_, Nat.lt_succ_self _, Nat.le_succ _, s2⟩
    show Value.int (Int32.ofInt (if E.1 = E.1 then x.toInt else y E.1)) = .int x
    rw [if_pos rfl, Int32.ofInt_toInt]
end YS
end
section
/-! comparing and concretizing, in the interval machine -/
section YC
variable {y : Nat → Int} {E : ym_S} {v w : Value}
theorem ys_nar_n (r : Int × Int) : (ym_nar E v r).1 = E.1 := by cases v <;> rfl
theorem ys_nar {r : Int × Int} {x : Int} (hs : ys_sat y E) (hv : ys_in E.1 v) (hx : (∀ k, v = .retAddr k → y k = x) ∧ (∀ u, v = .double u → y u.toNat = x)) (h1 : r.1 ≤ x) (h2 : x ≤ r.2) : ys_sat y (ym_nar E v r) := by
  have key : ∀ j : Nat, j < E.1 → y j = x → ys_sat y (ym_put E j r) := by
    intro j hj hy k q hk
    rw [yl_put] at hk
    by_cases e : k = j
    · rw [if_pos e] at hk
      cases hk
      rw [e, hy]
      exact ⟨hj, h1, h2⟩
    · rw [if_neg e] at hk
      exact hs k q hk
  cases v with
  | retAddr k => exact key k hv (hx.1 k rfl)
  | double u => exact key u.toNat hv (hx.2 u rfl)
  | _ => exact hs
/-- the number that an int stands for -/
theorem ys_ri2 {r : Int × Int} (h : ym_ri E v = some r) (hs : ys_sat y E) : ∃ x : Int32, ys_cv y v = .int x ∧ r.1 ≤ x.toInt ∧ x.toInt ≤ r.2 ∧ ys_in E.1 v ∧ ((∀ k, v = .retAddr k → y k = x.toInt) ∧ (∀ u, v = .double u → y u.toNat = x.toInt)) := by
  cases v with
  | int c =>
    cases h
    exact ⟨c, rfl, Int.le_refl _, Int.le_refl _, trivial, (fun k h => (by cases h)), (fun k h => (by cases h))⟩
  | retAddr k =>
    have h : (match ym_get E k with
      | some r => bif ym_i32 r then some r else none
      | none => none) = some r := h
    cases hk : ym_get E k with
    | none => rw [hk] at h; cases h
    | some q =>
      rw [hk] at h
      dsimp only at h
      cases hc : ym_i32 q with
      | false => rw [hc] at h; cases h
      | true =>
        rw [hc] at h
        cases h
        obtain ⟨h0, h1, h2⟩ := hs k _ hk
        unfold ym_i32 at hc
        rw [Bool.and_eq_true, decide_eq_true_eq, decide_eq_true_eq] at hc
        have e := ys_of32 (z := y k) (by omega) (by omega)
        exact ⟨_, rfl, by rw [e]; exact h1, by rw [e]; exact h2, h0, (fun j hj => (by cases hj; exact e.symm)), (fun j hj => (by cases hj))⟩
  | _ => cases h
theorem ys_cmp {a b : Int × Int} {k : ym_S → Int → Bool} {x z : Int} (h : ym_cmp E v w a b k = true) (hs : ys_sat y E) (hv : ys_in E.1 v) (hw : ys_in E.1 w) (hx : (∀ k, v = .retAddr k → y k = x) ∧ (∀ u, v = .double u → y u.toNat = x)) (hz : (∀ k, w = .retAddr k → y k = z) ∧ (∀ u, w = .double u → y u.toNat = z)) (a1 : a.1 ≤ x) (a2 : x ≤ a.2) (b1 : b.1 ≤ z) (b2 : z ≤ b.2) : ∃ E', k E' (xm_sgn x z) = true ∧ ys_sat y E' ∧ E'.1 = E.1 := by
  unfold ym_cmp at h
  simp only [Bool.and_eq_true] at h
  obtain ⟨h1, h2, h3⟩ := h
  have hin : ∀ r, ys_in (ym_nar E v r).1 w := fun r => by rw [ys_nar_n]; exact hw
  unfold xm_sgn
  by_cases c1 : x < z
  · rw [decide_eq_true (show a.1 < b.2 by omega), cond_true] at h1
    rw [decide_eq_true c1]
    exact ⟨_, h1, ys_nar (ys_nar hs hv hx a1 (by show x ≤ min a.2 (b.2 - 1); omega)) (hin _) hz (by show max b.1 (a.1 + 1) ≤ z; omega) b2, by rw [ys_nar_n, ys_nar_n]⟩
  · rw [decide_eq_false c1]
    by_cases c2 : x = z
    · rw [decide_eq_true (show a.1 ≤ b.2 by omega), decide_eq_true (show b.1 ≤ a.2 by omega)] at h2
      rw [decide_eq_true c2]
      exact ⟨_, h2, ys_nar (ys_nar hs hv hx (by show max a.1 b.1 ≤ x; omega) (by show x ≤ min a.2 b.2; omega)) (hin _) hz (by show max a.1 b.1 ≤ z; omega) (by show z ≤ min a.2 b.2; omega), by rw [ys_nar_n, ys_nar_n]⟩
    · rw [decide_eq_true (show b.1 < a.2 by omega), cond_true] at h3
      rw [decide_eq_false c2]
      exact ⟨_, h3, ys_nar (ys_nar hs hv hx (by show max a.1 (b.1 + 1) ≤ x; omega) a2) (hin _) hz b1 (by show z ≤ min b.2 (a.2 - 1); omega), by rw [ys_nar_n, ys_nar_n]⟩
theorem ys_conc {k : ym_S → Int → Bool} (h : ym_conc E v k = true) (hs : ys_sat y E) : ∃ (E' : ym_S) (x : Int32), k E' x.toInt = true ∧ ys_sat y E' ∧ E'.1 = E.1 ∧ ys_cv y v = .int x := by
  unfold ym_conc at h
  cases hr : ym_ri E v with
  | none => rw [hr] at h; cases h
  | some r =>
    rw [hr] at h
    dsimp only at h
    obtain ⟨x, e1, e2, e3, e4, e5⟩ := ys_ri2 hr hs
    by_cases hd : r.2 - r.1 < 1024
    · rw [decide_eq_true hd, cond_true] at h
      have h1 := xl_all h x.toInt e2 (by omega)
      exact ⟨_, x, h1, ys_nar hs e4 e5 (Int.le_refl _) (Int.le_refl _), ys_nar_n _, e1⟩
    · rw [decide_eq_false hd] at h
      cases h
end YC
end
section
/-! an operation's answer lies in its range: sums and differences -/
theorem ys_bm {z : Int} (h1 : -2147483648 ≤ z) (h2 : z ≤ 2147483647) : z.bmod (2 ^ 32) = z := Int.bmod_eq_of_le (by omega) (by omega)
theorem ys_i32 {r : Int × Int} (h : ym_i32 r = true) : -2147483648 ≤ r.1 ∧ r.2 ≤ 2147483647 := by
  unfold ym_i32 at h
  rw [Bool.and_eq_true, decide_eq_true_eq, decide_eq_true_eq] at h
  exact h
theorem ys_iadd {a b : Int × Int} {x z : Int32} (a1 : a.1 ≤ x.toInt) (a2 : x.toInt ≤ a.2) (b1 : b.1 ≤ z.toInt) (b2 : z.toInt ≤ b.2) (h : ym_i32 (a.1 + b.1, a.2 + b.2) = true) : a.1 + b.1 ≤ (x + z).toInt ∧ (x + z).toInt ≤ a.2 + b.2 := by
  have h0 := ys_i32 h
  dsimp only at h0
  rw [Int32.toInt_add, ys_bm (by omega) (by omega)]
  omega
theorem ys_isub {a b : Int × Int} {x z : Int32} (a1 : a.1 ≤ x.toInt) (a2 : x.toInt ≤ a.2) (b1 : b.1 ≤ z.toInt) (b2 : z.toInt ≤ b.2) (h : ym_i32 (a.1 - b.2, a.2 - b.1) = true) : a.1 - b.2 ≤ (x - z).toInt ∧ (x - z).toInt ≤ a.2 - b.1 := by
  have h0 := ys_i32 h
  dsimp only at h0
  rw [Int32.toInt_sub, ys_bm (by omega) (by omega)]
  omega
end
