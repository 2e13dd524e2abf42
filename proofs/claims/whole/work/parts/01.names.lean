-- the tables' words (the skeleton's PART A), then the names as they were printed (names, fields, code names)
-- ===== PART A: goes FIRST, ahead of the names: the tables' words, and 'selects' of the private methods out of them =====
/-- a private method of a class that the tables say can be made, by its rows of tables_1 -/
def lw_okq (q : MethodName × Nat) : Prop := (q.1.cls ≠ "java/lang/invoke/MethodHandle" ∧ q.1.cls ≠ "java/lang/invoke/VarHandle") ∧ Cond.instantiable q.1.cls q.2 ∈ tables_1 ∧ Cond.privateMethod q.1 ∈ tables_1 ∧ Cond.instanceMethod q.1 ∈ tables_1
theorem lw_p0 : lw_okq (⟨"KitchenSheets", "isTray", "(I)Z"⟩, 19) := ⟨⟨by decide +kernel, by decide +kernel⟩, List.mem_of_getElem? (i := 22) (by decide +kernel), List.mem_of_getElem? (i := 458) (by decide +kernel), List.mem_of_getElem? (i := 459) (by decide +kernel)⟩
theorem lw_p1 : lw_okq (⟨"KitchenSheets", "deny", "(I)Z"⟩, 19) := ⟨⟨by decide +kernel, by decide +kernel⟩, List.mem_of_getElem? (i := 22) (by decide +kernel), List.mem_of_getElem? (i := 467) (by decide +kernel), List.mem_of_getElem? (i := 468) (by decide +kernel)⟩
theorem lw_p2 : lw_okq (⟨"KitchenSheets", "agree", "()Z"⟩, 19) := ⟨⟨by decide +kernel, by decide +kernel⟩, List.mem_of_getElem? (i := 22) (by decide +kernel), List.mem_of_getElem? (i := 475) (by decide +kernel), List.mem_of_getElem? (i := 476) (by decide +kernel)⟩
theorem lw_p3 : lw_okq (⟨"KitchenSheets", "whyNoPlace", "(II)I"⟩, 19) := ⟨⟨by decide +kernel, by decide +kernel⟩, List.mem_of_getElem? (i := 22) (by decide +kernel), List.mem_of_getElem? (i := 483) (by decide +kernel), List.mem_of_getElem? (i := 484) (by decide +kernel)⟩
theorem lw_p4 : lw_okq (⟨"KitchenSheets", "refuse", "(I)I"⟩, 19) := ⟨⟨by decide +kernel, by decide +kernel⟩, List.mem_of_getElem? (i := 22) (by decide +kernel), List.mem_of_getElem? (i := 499) (by decide +kernel), List.mem_of_getElem? (i := 500) (by decide +kernel)⟩
theorem lw_p5 : lw_okq (⟨"KitchenSheets$Tokens", "takeWord", "()V"⟩, 10) := ⟨⟨by decide +kernel, by decide +kernel⟩, List.mem_of_getElem? (i := 32) (by decide +kernel), List.mem_of_getElem? (i := 542) (by decide +kernel), List.mem_of_getElem? (i := 543) (by decide +kernel)⟩
theorem lw_p6 : lw_okq (⟨"KitchenSheets$Tokens", "takeNumber", "()V"⟩, 10) := ⟨⟨by decide +kernel, by decide +kernel⟩, List.mem_of_getElem? (i := 32) (by decide +kernel), List.mem_of_getElem? (i := 546) (by decide +kernel), List.mem_of_getElem? (i := 547) (by decide +kernel)⟩
theorem lw_p7 : lw_okq (⟨"KitchenSheets$LandReader", "takeAsk", "(LKitchenSheets$Land;)V"⟩, 3) := ⟨⟨by decide +kernel, by decide +kernel⟩, List.mem_of_getElem? (i := 75) (by decide +kernel), List.mem_of_getElem? (i := 559) (by decide +kernel), List.mem_of_getElem? (i := 560) (by decide +kernel)⟩
theorem lw_p8 : lw_okq (⟨"KitchenSheets$LandReader", "takeTable", "(LKitchenSheets$Land;LKitchenSheets$Table;)V"⟩, 3) := ⟨⟨by decide +kernel, by decide +kernel⟩, List.mem_of_getElem? (i := 75) (by decide +kernel), List.mem_of_getElem? (i := 599) (by decide +kernel), List.mem_of_getElem? (i := 600) (by decide +kernel)⟩
theorem lw_p9 : lw_okq (⟨"KitchenSheets$LandReader", "knownName", "(LKitchenSheets$Land;I)I"⟩, 3) := ⟨⟨by decide +kernel, by decide +kernel⟩, List.mem_of_getElem? (i := 75) (by decide +kernel), List.mem_of_getElem? (i := 603) (by decide +kernel), List.mem_of_getElem? (i := 604) (by decide +kernel)⟩
theorem lw_p10 : lw_okq (⟨"KitchenSheets$LandReader", "takeWeights", "(LKitchenSheets$Table;III)V"⟩, 3) := ⟨⟨by decide +kernel, by decide +kernel⟩, List.mem_of_getElem? (i := 75) (by decide +kernel), List.mem_of_getElem? (i := 611) (by decide +kernel), List.mem_of_getElem? (i := 612) (by decide +kernel)⟩
theorem lw_p11 : lw_okq (⟨"KitchenSheets$LandReader", "takeDoor", "(LKitchenSheets$Land;)V"⟩, 3) := ⟨⟨by decide +kernel, by decide +kernel⟩, List.mem_of_getElem? (i := 75) (by decide +kernel), List.mem_of_getElem? (i := 624) (by decide +kernel), List.mem_of_getElem? (i := 625) (by decide +kernel)⟩
theorem lw_p12 : lw_okq (⟨"KitchenSheets$LandReader", "takeWalk", "(LKitchenSheets$Land;)V"⟩, 3) := ⟨⟨by decide +kernel, by decide +kernel⟩, List.mem_of_getElem? (i := 75) (by decide +kernel), List.mem_of_getElem? (i := 628) (by decide +kernel), List.mem_of_getElem? (i := 629) (by decide +kernel)⟩
theorem lw_p13 : lw_okq (⟨"KitchenSheets$LandReader", "takeCards", "(LKitchenSheets$Land;)V"⟩, 3) := ⟨⟨by decide +kernel, by decide +kernel⟩, List.mem_of_getElem? (i := 75) (by decide +kernel), List.mem_of_getElem? (i := 632) (by decide +kernel), List.mem_of_getElem? (i := 633) (by decide +kernel)⟩
theorem lw_p14 : lw_okq (⟨"KitchenSheets", "answer", "(I)I"⟩, 19) := ⟨⟨by decide +kernel, by decide +kernel⟩, List.mem_of_getElem? (i := 22) (by decide +kernel), List.mem_of_getElem? (i := 645) (by decide +kernel), List.mem_of_getElem? (i := 646) (by decide +kernel)⟩
theorem lw_p15 : lw_okq (⟨"KitchenSheets$RulesReader", "takeTerms", "(LKitchenSheets$Rules;I)V"⟩, 2) := ⟨⟨by decide +kernel, by decide +kernel⟩, List.mem_of_getElem? (i := 91) (by decide +kernel), List.mem_of_getElem? (i := 666) (by decide +kernel), List.mem_of_getElem? (i := 667) (by decide +kernel)⟩
def lw_privs_1 : List (MethodName × Nat) := [(⟨"KitchenSheets", "isTray", "(I)Z"⟩, 19), (⟨"KitchenSheets", "deny", "(I)Z"⟩, 19), (⟨"KitchenSheets", "agree", "()Z"⟩, 19), (⟨"KitchenSheets", "whyNoPlace", "(II)I"⟩, 19), (⟨"KitchenSheets", "refuse", "(I)I"⟩, 19), (⟨"KitchenSheets$Tokens", "takeWord", "()V"⟩, 10), (⟨"KitchenSheets$Tokens", "takeNumber", "()V"⟩, 10), (⟨"KitchenSheets$LandReader", "takeAsk", "(LKitchenSheets$Land;)V"⟩, 3), (⟨"KitchenSheets$LandReader", "takeTable", "(LKitchenSheets$Land;LKitchenSheets$Table;)V"⟩, 3), (⟨"KitchenSheets$LandReader", "knownName", "(LKitchenSheets$Land;I)I"⟩, 3), (⟨"KitchenSheets$LandReader", "takeWeights", "(LKitchenSheets$Table;III)V"⟩, 3), (⟨"KitchenSheets$LandReader", "takeDoor", "(LKitchenSheets$Land;)V"⟩, 3), (⟨"KitchenSheets$LandReader", "takeWalk", "(LKitchenSheets$Land;)V"⟩, 3), (⟨"KitchenSheets$LandReader", "takeCards", "(LKitchenSheets$Land;)V"⟩, 3), (⟨"KitchenSheets", "answer", "(I)I"⟩, 19), (⟨"KitchenSheets$RulesReader", "takeTerms", "(LKitchenSheets$Rules;I)V"⟩, 2)]
theorem lw_r1 : ∀ q ∈ lw_privs_1, lw_okq q := List.forall_mem_cons.mpr ⟨lw_p0, List.forall_mem_cons.mpr ⟨lw_p1, List.forall_mem_cons.mpr ⟨lw_p2, List.forall_mem_cons.mpr ⟨lw_p3, List.forall_mem_cons.mpr ⟨lw_p4, List.forall_mem_cons.mpr ⟨lw_p5, List.forall_mem_cons.mpr ⟨lw_p6, List.forall_mem_cons.mpr ⟨lw_p7, List.forall_mem_cons.mpr ⟨lw_p8, List.forall_mem_cons.mpr ⟨lw_p9, List.forall_mem_cons.mpr ⟨lw_p10, List.forall_mem_cons.mpr ⟨lw_p11, List.forall_mem_cons.mpr ⟨lw_p12, List.forall_mem_cons.mpr ⟨lw_p13, List.forall_mem_cons.mpr ⟨lw_p14, List.forall_mem_cons.mpr ⟨lw_p15, fun _ h => absurd h List.not_mem_nil⟩⟩⟩⟩⟩⟩⟩⟩⟩⟩⟩⟩⟩⟩⟩⟩
theorem lw_p16 : lw_okq (⟨"KitchenSheets$RulesReader", "takeTerm", "(LKitchenSheets$Rules;I)V"⟩, 2) := ⟨⟨by decide +kernel, by decide +kernel⟩, List.mem_of_getElem? (i := 91) (by decide +kernel), List.mem_of_getElem? (i := 670) (by decide +kernel), List.mem_of_getElem? (i := 671) (by decide +kernel)⟩
theorem lw_p17 : lw_okq (⟨"KitchenSheets$RulesReader", "takeTest", "(LKitchenSheets$Rules;I)V"⟩, 2) := ⟨⟨by decide +kernel, by decide +kernel⟩, List.mem_of_getElem? (i := 91) (by decide +kernel), List.mem_of_getElem? (i := 674) (by decide +kernel), List.mem_of_getElem? (i := 675) (by decide +kernel)⟩
theorem lw_p18 : lw_okq (⟨"KitchenSheets", "isQuestion", "(I)Z"⟩, 19) := ⟨⟨by decide +kernel, by decide +kernel⟩, List.mem_of_getElem? (i := 22) (by decide +kernel), List.mem_of_getElem? (i := 718) (by decide +kernel), List.mem_of_getElem? (i := 719) (by decide +kernel)⟩
theorem lw_p19 : lw_okq (⟨"KitchenSheets", "isAnswer", "(II)Z"⟩, 19) := ⟨⟨by decide +kernel, by decide +kernel⟩, List.mem_of_getElem? (i := 22) (by decide +kernel), List.mem_of_getElem? (i := 727) (by decide +kernel), List.mem_of_getElem? (i := 728) (by decide +kernel)⟩
theorem lw_p20 : lw_okq (⟨"KitchenSheets", "isSheet", "(I)Z"⟩, 19) := ⟨⟨by decide +kernel, by decide +kernel⟩, List.mem_of_getElem? (i := 22) (by decide +kernel), List.mem_of_getElem? (i := 755) (by decide +kernel), List.mem_of_getElem? (i := 756) (by decide +kernel)⟩
theorem lw_p21 : lw_okq (⟨"KitchenSheets", "tell", "(JJ)Z"⟩, 19) := ⟨⟨by decide +kernel, by decide +kernel⟩, List.mem_of_getElem? (i := 22) (by decide +kernel), List.mem_of_getElem? (i := 802) (by decide +kernel), List.mem_of_getElem? (i := 803) (by decide +kernel)⟩
theorem lw_p22 : lw_okq (⟨"KitchenSheets", "isDoor", "(I)Z"⟩, 19) := ⟨⟨by decide +kernel, by decide +kernel⟩, List.mem_of_getElem? (i := 22) (by decide +kernel), List.mem_of_getElem? (i := 817) (by decide +kernel), List.mem_of_getElem? (i := 818) (by decide +kernel)⟩
theorem lw_p23 : lw_okq (⟨"KitchenSheets$Hours", "putInOrder", "(I)I"⟩, 3) := ⟨⟨by decide +kernel, by decide +kernel⟩, List.mem_of_getElem? (i := 294) (by decide +kernel), List.mem_of_getElem? (i := 843) (by decide +kernel), List.mem_of_getElem? (i := 844) (by decide +kernel)⟩
theorem lw_p24 : lw_okq (⟨"KitchenSheets$Hours", "measureWalks", "(I)I"⟩, 3) := ⟨⟨by decide +kernel, by decide +kernel⟩, List.mem_of_getElem? (i := 294) (by decide +kernel), List.mem_of_getElem? (i := 851) (by decide +kernel), List.mem_of_getElem? (i := 852) (by decide +kernel)⟩
theorem lw_p25 : lw_okq (⟨"KitchenSheets", "isRule", "(I)Z"⟩, 19) := ⟨⟨by decide +kernel, by decide +kernel⟩, List.mem_of_getElem? (i := 22) (by decide +kernel), List.mem_of_getElem? (i := 952) (by decide +kernel), List.mem_of_getElem? (i := 953) (by decide +kernel)⟩
theorem lw_p26 : lw_okq (⟨"KitchenSheets$Judge", "view", "(I)V"⟩, 9) := ⟨⟨by decide +kernel, by decide +kernel⟩, List.mem_of_getElem? (i := 310) (by decide +kernel), List.mem_of_getElem? (i := 960) (by decide +kernel), List.mem_of_getElem? (i := 961) (by decide +kernel)⟩
theorem lw_p27 : lw_okq (⟨"KitchenSheets$Judge", "suppose", "(I)V"⟩, 9) := ⟨⟨by decide +kernel, by decide +kernel⟩, List.mem_of_getElem? (i := 310) (by decide +kernel), List.mem_of_getElem? (i := 965) (by decide +kernel), List.mem_of_getElem? (i := 966) (by decide +kernel)⟩
theorem lw_p28 : lw_okq (⟨"KitchenSheets$Judge", "flags", "(I)Z"⟩, 9) := ⟨⟨by decide +kernel, by decide +kernel⟩, List.mem_of_getElem? (i := 310) (by decide +kernel), List.mem_of_getElem? (i := 973) (by decide +kernel), List.mem_of_getElem? (i := 974) (by decide +kernel)⟩
theorem lw_p29 : lw_okq (⟨"KitchenSheets$Judge", "holds", "(II)Z"⟩, 9) := ⟨⟨by decide +kernel, by decide +kernel⟩, List.mem_of_getElem? (i := 310) (by decide +kernel), List.mem_of_getElem? (i := 978) (by decide +kernel), List.mem_of_getElem? (i := 979) (by decide +kernel)⟩
theorem lw_p30 : lw_okq (⟨"KitchenSheets$State", "draw", "(I)I"⟩, 12) := ⟨⟨by decide +kernel, by decide +kernel⟩, List.mem_of_getElem? (i := 104) (by decide +kernel), List.mem_of_getElem? (i := 1045) (by decide +kernel), List.mem_of_getElem? (i := 1046) (by decide +kernel)⟩
theorem lw_p31 : lw_okq (⟨"KitchenSheets$State", "drawAnswers", "(I)I"⟩, 12) := ⟨⟨by decide +kernel, by decide +kernel⟩, List.mem_of_getElem? (i := 104) (by decide +kernel), List.mem_of_getElem? (i := 1050) (by decide +kernel), List.mem_of_getElem? (i := 1051) (by decide +kernel)⟩
def lw_privs_2 : List (MethodName × Nat) := [(⟨"KitchenSheets$RulesReader", "takeTerm", "(LKitchenSheets$Rules;I)V"⟩, 2), (⟨"KitchenSheets$RulesReader", "takeTest", "(LKitchenSheets$Rules;I)V"⟩, 2), (⟨"KitchenSheets", "isQuestion", "(I)Z"⟩, 19), (⟨"KitchenSheets", "isAnswer", "(II)Z"⟩, 19), (⟨"KitchenSheets", "isSheet", "(I)Z"⟩, 19), (⟨"KitchenSheets", "tell", "(JJ)Z"⟩, 19), (⟨"KitchenSheets", "isDoor", "(I)Z"⟩, 19), (⟨"KitchenSheets$Hours", "putInOrder", "(I)I"⟩, 3), (⟨"KitchenSheets$Hours", "measureWalks", "(I)I"⟩, 3), (⟨"KitchenSheets", "isRule", "(I)Z"⟩, 19), (⟨"KitchenSheets$Judge", "view", "(I)V"⟩, 9), (⟨"KitchenSheets$Judge", "suppose", "(I)V"⟩, 9), (⟨"KitchenSheets$Judge", "flags", "(I)Z"⟩, 9), (⟨"KitchenSheets$Judge", "holds", "(II)Z"⟩, 9), (⟨"KitchenSheets$State", "draw", "(I)I"⟩, 12), (⟨"KitchenSheets$State", "drawAnswers", "(I)I"⟩, 12)]
theorem lw_r2 : ∀ q ∈ lw_privs_2, lw_okq q := List.forall_mem_cons.mpr ⟨lw_p16, List.forall_mem_cons.mpr ⟨lw_p17, List.forall_mem_cons.mpr ⟨lw_p18, List.forall_mem_cons.mpr ⟨lw_p19, List.forall_mem_cons.mpr ⟨lw_p20, List.forall_mem_cons.mpr ⟨lw_p21, List.forall_mem_cons.mpr ⟨lw_p22, List.forall_mem_cons.mpr ⟨lw_p23, List.forall_mem_cons.mpr ⟨lw_p24, List.forall_mem_cons.mpr ⟨lw_p25, List.forall_mem_cons.mpr ⟨lw_p26, List.forall_mem_cons.mpr ⟨lw_p27, List.forall_mem_cons.mpr ⟨lw_p28, List.forall_mem_cons.mpr ⟨lw_p29, List.forall_mem_cons.mpr ⟨lw_p30, List.forall_mem_cons.mpr ⟨lw_p31, fun _ h => absurd h List.not_mem_nil⟩⟩⟩⟩⟩⟩⟩⟩⟩⟩⟩⟩⟩⟩⟩⟩
theorem lw_p32 : lw_okq (⟨"KitchenSheetsModel", "plain", "(I)V"⟩, 41) := ⟨⟨by decide +kernel, by decide +kernel⟩, List.mem_of_getElem? (i := 1094) (by decide +kernel), List.mem_of_getElem? (i := 1100) (by decide +kernel), List.mem_of_getElem? (i := 1101) (by decide +kernel)⟩
theorem lw_p33 : lw_okq (⟨"KitchenSheetsModel", "is", "(I)Z"⟩, 41) := ⟨⟨by decide +kernel, by decide +kernel⟩, List.mem_of_getElem? (i := 1094) (by decide +kernel), List.mem_of_getElem? (i := 1247) (by decide +kernel), List.mem_of_getElem? (i := 1248) (by decide +kernel)⟩
theorem lw_p34 : lw_okq (⟨"KitchenSheetsModel", "wrongPlace", "(II)I"⟩, 41) := ⟨⟨by decide +kernel, by decide +kernel⟩, List.mem_of_getElem? (i := 1094) (by decide +kernel), List.mem_of_getElem? (i := 1255) (by decide +kernel), List.mem_of_getElem? (i := 1256) (by decide +kernel)⟩
theorem lw_p35 : lw_okq (⟨"KitchenSheetsModel", "four", "(I)V"⟩, 41) := ⟨⟨by decide +kernel, by decide +kernel⟩, List.mem_of_getElem? (i := 1094) (by decide +kernel), List.mem_of_getElem? (i := 1275) (by decide +kernel), List.mem_of_getElem? (i := 1276) (by decide +kernel)⟩
theorem lw_p36 : lw_okq (⟨"KitchenSheetsModel", "refuse", "(I)I"⟩, 41) := ⟨⟨by decide +kernel, by decide +kernel⟩, List.mem_of_getElem? (i := 1094) (by decide +kernel), List.mem_of_getElem? (i := 1287) (by decide +kernel), List.mem_of_getElem? (i := 1288) (by decide +kernel)⟩
theorem lw_p37 : lw_okq (⟨"KitchenSheetsModel", "begins", "(I)V"⟩, 41) := ⟨⟨by decide +kernel, by decide +kernel⟩, List.mem_of_getElem? (i := 1094) (by decide +kernel), List.mem_of_getElem? (i := 1291) (by decide +kernel), List.mem_of_getElem? (i := 1292) (by decide +kernel)⟩
theorem lw_p38 : lw_okq (⟨"KitchenSheetsModel", "ahead", "()V"⟩, 41) := ⟨⟨by decide +kernel, by decide +kernel⟩, List.mem_of_getElem? (i := 1094) (by decide +kernel), List.mem_of_getElem? (i := 1295) (by decide +kernel), List.mem_of_getElem? (i := 1296) (by decide +kernel)⟩
theorem lw_p39 : lw_okq (⟨"KitchenSheetsModel", "byteAt", "(I)I"⟩, 41) := ⟨⟨by decide +kernel, by decide +kernel⟩, List.mem_of_getElem? (i := 1094) (by decide +kernel), List.mem_of_getElem? (i := 1299) (by decide +kernel), List.mem_of_getElem? (i := 1300) (by decide +kernel)⟩
theorem lw_p40 : lw_okq (⟨"KitchenSheetsModel", "part", "()Z"⟩, 41) := ⟨⟨by decide +kernel, by decide +kernel⟩, List.mem_of_getElem? (i := 1094) (by decide +kernel), List.mem_of_getElem? (i := 1311) (by decide +kernel), List.mem_of_getElem? (i := 1312) (by decide +kernel)⟩
theorem lw_p41 : lw_okq (⟨"KitchenSheetsModel", "inWords", "(Ljava/lang/String;)I"⟩, 41) := ⟨⟨by decide +kernel, by decide +kernel⟩, List.mem_of_getElem? (i := 1094) (by decide +kernel), List.mem_of_getElem? (i := 1316) (by decide +kernel), List.mem_of_getElem? (i := 1317) (by decide +kernel)⟩
theorem lw_p42 : lw_okq (⟨"KitchenSheetsModel", "fails", "(I)Z"⟩, 41) := ⟨⟨by decide +kernel, by decide +kernel⟩, List.mem_of_getElem? (i := 1094) (by decide +kernel), List.mem_of_getElem? (i := 1368) (by decide +kernel), List.mem_of_getElem? (i := 1369) (by decide +kernel)⟩
theorem lw_p43 : lw_okq (⟨"KitchenSheetsModel", "passes", "(III)Z"⟩, 41) := ⟨⟨by decide +kernel, by decide +kernel⟩, List.mem_of_getElem? (i := 1094) (by decide +kernel), List.mem_of_getElem? (i := 1372) (by decide +kernel), List.mem_of_getElem? (i := 1373) (by decide +kernel)⟩
theorem lw_p44 : lw_okq (⟨"KitchenSheetsModel", "anAsk", "()Z"⟩, 41) := ⟨⟨by decide +kernel, by decide +kernel⟩, List.mem_of_getElem? (i := 1094) (by decide +kernel), List.mem_of_getElem? (i := 1376) (by decide +kernel), List.mem_of_getElem? (i := 1377) (by decide +kernel)⟩
theorem lw_p45 : lw_okq (⟨"KitchenSheetsModel", "isName", "()Z"⟩, 41) := ⟨⟨by decide +kernel, by decide +kernel⟩, List.mem_of_getElem? (i := 1094) (by decide +kernel), List.mem_of_getElem? (i := 1380) (by decide +kernel), List.mem_of_getElem? (i := 1381) (by decide +kernel)⟩
theorem lw_p46 : lw_okq (⟨"KitchenSheetsModel", "findHere", "(I)I"⟩, 41) := ⟨⟨by decide +kernel, by decide +kernel⟩, List.mem_of_getElem? (i := 1094) (by decide +kernel), List.mem_of_getElem? (i := 1384) (by decide +kernel), List.mem_of_getElem? (i := 1385) (by decide +kernel)⟩
theorem lw_p47 : lw_okq (⟨"KitchenSheetsModel", "nameHere", "()J"⟩, 41) := ⟨⟨by decide +kernel, by decide +kernel⟩, List.mem_of_getElem? (i := 1094) (by decide +kernel), List.mem_of_getElem? (i := 1388) (by decide +kernel), List.mem_of_getElem? (i := 1389) (by decide +kernel)⟩
def lw_privs_3 : List (MethodName × Nat) := [(⟨"KitchenSheetsModel", "plain", "(I)V"⟩, 41), (⟨"KitchenSheetsModel", "is", "(I)Z"⟩, 41), (⟨"KitchenSheetsModel", "wrongPlace", "(II)I"⟩, 41), (⟨"KitchenSheetsModel", "four", "(I)V"⟩, 41), (⟨"KitchenSheetsModel", "refuse", "(I)I"⟩, 41), (⟨"KitchenSheetsModel", "begins", "(I)V"⟩, 41), (⟨"KitchenSheetsModel", "ahead", "()V"⟩, 41), (⟨"KitchenSheetsModel", "byteAt", "(I)I"⟩, 41), (⟨"KitchenSheetsModel", "part", "()Z"⟩, 41), (⟨"KitchenSheetsModel", "inWords", "(Ljava/lang/String;)I"⟩, 41), (⟨"KitchenSheetsModel", "fails", "(I)Z"⟩, 41), (⟨"KitchenSheetsModel", "passes", "(III)Z"⟩, 41), (⟨"KitchenSheetsModel", "anAsk", "()Z"⟩, 41), (⟨"KitchenSheetsModel", "isName", "()Z"⟩, 41), (⟨"KitchenSheetsModel", "findHere", "(I)I"⟩, 41), (⟨"KitchenSheetsModel", "nameHere", "()J"⟩, 41)]
theorem lw_r3 : ∀ q ∈ lw_privs_3, lw_okq q := List.forall_mem_cons.mpr ⟨lw_p32, List.forall_mem_cons.mpr ⟨lw_p33, List.forall_mem_cons.mpr ⟨lw_p34, List.forall_mem_cons.mpr ⟨lw_p35, List.forall_mem_cons.mpr ⟨lw_p36, List.forall_mem_cons.mpr ⟨lw_p37, List.forall_mem_cons.mpr ⟨lw_p38, List.forall_mem_cons.mpr ⟨lw_p39, List.forall_mem_cons.mpr ⟨lw_p40, List.forall_mem_cons.mpr ⟨lw_p41, List.forall_mem_cons.mpr ⟨lw_p42, List.forall_mem_cons.mpr ⟨lw_p43, List.forall_mem_cons.mpr ⟨lw_p44, List.forall_mem_cons.mpr ⟨lw_p45, List.forall_mem_cons.mpr ⟨lw_p46, List.forall_mem_cons.mpr ⟨lw_p47, fun _ h => absurd h List.not_mem_nil⟩⟩⟩⟩⟩⟩⟩⟩⟩⟩⟩⟩⟩⟩⟩⟩
theorem lw_p48 : lw_okq (⟨"KitchenSheetsModel", "aDoor", "()Z"⟩, 41) := ⟨⟨by decide +kernel, by decide +kernel⟩, List.mem_of_getElem? (i := 1094) (by decide +kernel), List.mem_of_getElem? (i := 1395) (by decide +kernel), List.mem_of_getElem? (i := 1396) (by decide +kernel)⟩
theorem lw_p49 : lw_okq (⟨"KitchenSheetsModel", "someWeights", "(I)Z"⟩, 41) := ⟨⟨by decide +kernel, by decide +kernel⟩, List.mem_of_getElem? (i := 1094) (by decide +kernel), List.mem_of_getElem? (i := 1399) (by decide +kernel), List.mem_of_getElem? (i := 1400) (by decide +kernel)⟩
theorem lw_p50 : lw_okq (⟨"KitchenSheetsModel", "isSign", "(I)Z"⟩, 41) := ⟨⟨by decide +kernel, by decide +kernel⟩, List.mem_of_getElem? (i := 1094) (by decide +kernel), List.mem_of_getElem? (i := 1403) (by decide +kernel), List.mem_of_getElem? (i := 1404) (by decide +kernel)⟩
theorem lw_p51 : lw_okq (⟨"KitchenSheetsModel", "closes", "()Z"⟩, 41) := ⟨⟨by decide +kernel, by decide +kernel⟩, List.mem_of_getElem? (i := 1094) (by decide +kernel), List.mem_of_getElem? (i := 1407) (by decide +kernel), List.mem_of_getElem? (i := 1408) (by decide +kernel)⟩
theorem lw_p52 : lw_okq (⟨"KitchenSheetsModel", "gives", "(I)I"⟩, 41) := ⟨⟨by decide +kernel, by decide +kernel⟩, List.mem_of_getElem? (i := 1094) (by decide +kernel), List.mem_of_getElem? (i := 1411) (by decide +kernel), List.mem_of_getElem? (i := 1412) (by decide +kernel)⟩
theorem lw_p53 : lw_okq (⟨"KitchenSheetsModel", "flag", "()Z"⟩, 41) := ⟨⟨by decide +kernel, by decide +kernel⟩, List.mem_of_getElem? (i := 1094) (by decide +kernel), List.mem_of_getElem? (i := 1419) (by decide +kernel), List.mem_of_getElem? (i := 1420) (by decide +kernel)⟩
theorem lw_p54 : lw_okq (⟨"KitchenSheetsModel", "joins", "()Z"⟩, 41) := ⟨⟨by decide +kernel, by decide +kernel⟩, List.mem_of_getElem? (i := 1094) (by decide +kernel), List.mem_of_getElem? (i := 1424) (by decide +kernel), List.mem_of_getElem? (i := 1425) (by decide +kernel)⟩
theorem lw_p55 : lw_okq (⟨"KitchenSheetsModel", "falls", "(I)V"⟩, 41) := ⟨⟨by decide +kernel, by decide +kernel⟩, List.mem_of_getElem? (i := 1094) (by decide +kernel), List.mem_of_getElem? (i := 1428) (by decide +kernel), List.mem_of_getElem? (i := 1429) (by decide +kernel)⟩
theorem lw_p56 : lw_okq (⟨"KitchenSheetsModel", "puts", "(II)V"⟩, 41) := ⟨⟨by decide +kernel, by decide +kernel⟩, List.mem_of_getElem? (i := 1094) (by decide +kernel), List.mem_of_getElem? (i := 1432) (by decide +kernel), List.mem_of_getElem? (i := 1433) (by decide +kernel)⟩
theorem lw_p57 : lw_okq (⟨"KitchenSheetsModel", "begin", "()Z"⟩, 41) := ⟨⟨by decide +kernel, by decide +kernel⟩, List.mem_of_getElem? (i := 1094) (by decide +kernel), List.mem_of_getElem? (i := 1436) (by decide +kernel), List.mem_of_getElem? (i := 1437) (by decide +kernel)⟩
theorem lw_p58 : lw_okq (⟨"KitchenSheetsModel", "isQuestion", "(I)Z"⟩, 41) := ⟨⟨by decide +kernel, by decide +kernel⟩, List.mem_of_getElem? (i := 1094) (by decide +kernel), List.mem_of_getElem? (i := 1448) (by decide +kernel), List.mem_of_getElem? (i := 1449) (by decide +kernel)⟩
theorem lw_p59 : lw_okq (⟨"KitchenSheetsModel", "answersOf", "(I)I"⟩, 41) := ⟨⟨by decide +kernel, by decide +kernel⟩, List.mem_of_getElem? (i := 1094) (by decide +kernel), List.mem_of_getElem? (i := 1456) (by decide +kernel), List.mem_of_getElem? (i := 1457) (by decide +kernel)⟩
theorem lw_p60 : lw_okq (⟨"KitchenSheetsModel", "isDoor", "(J)Z"⟩, 41) := ⟨⟨by decide +kernel, by decide +kernel⟩, List.mem_of_getElem? (i := 1094) (by decide +kernel), List.mem_of_getElem? (i := 1468) (by decide +kernel), List.mem_of_getElem? (i := 1469) (by decide +kernel)⟩
theorem lw_p61 : lw_okq (⟨"KitchenSheetsModel", "isSheet", "(I)Z"⟩, 41) := ⟨⟨by decide +kernel, by decide +kernel⟩, List.mem_of_getElem? (i := 1094) (by decide +kernel), List.mem_of_getElem? (i := 1480) (by decide +kernel), List.mem_of_getElem? (i := 1481) (by decide +kernel)⟩
theorem lw_p62 : lw_okq (⟨"KitchenSheetsModel", "ofSheet", "(II)I"⟩, 41) := ⟨⟨by decide +kernel, by decide +kernel⟩, List.mem_of_getElem? (i := 1094) (by decide +kernel), List.mem_of_getElem? (i := 1484) (by decide +kernel), List.mem_of_getElem? (i := 1485) (by decide +kernel)⟩
theorem lw_p63 : lw_okq (⟨"KitchenSheetsModel", "sheetWeighs", "(IZ)J"⟩, 41) := ⟨⟨by decide +kernel, by decide +kernel⟩, List.mem_of_getElem? (i := 1094) (by decide +kernel), List.mem_of_getElem? (i := 1500) (by decide +kernel), List.mem_of_getElem? (i := 1501) (by decide +kernel)⟩
def lw_privs_4 : List (MethodName × Nat) := [(⟨"KitchenSheetsModel", "aDoor", "()Z"⟩, 41), (⟨"KitchenSheetsModel", "someWeights", "(I)Z"⟩, 41), (⟨"KitchenSheetsModel", "isSign", "(I)Z"⟩, 41), (⟨"KitchenSheetsModel", "closes", "()Z"⟩, 41), (⟨"KitchenSheetsModel", "gives", "(I)I"⟩, 41), (⟨"KitchenSheetsModel", "flag", "()Z"⟩, 41), (⟨"KitchenSheetsModel", "joins", "()Z"⟩, 41), (⟨"KitchenSheetsModel", "falls", "(I)V"⟩, 41), (⟨"KitchenSheetsModel", "puts", "(II)V"⟩, 41), (⟨"KitchenSheetsModel", "begin", "()Z"⟩, 41), (⟨"KitchenSheetsModel", "isQuestion", "(I)Z"⟩, 41), (⟨"KitchenSheetsModel", "answersOf", "(I)I"⟩, 41), (⟨"KitchenSheetsModel", "isDoor", "(J)Z"⟩, 41), (⟨"KitchenSheetsModel", "isSheet", "(I)Z"⟩, 41), (⟨"KitchenSheetsModel", "ofSheet", "(II)I"⟩, 41), (⟨"KitchenSheetsModel", "sheetWeighs", "(IZ)J"⟩, 41)]
theorem lw_r4 : ∀ q ∈ lw_privs_4, lw_okq q := List.forall_mem_cons.mpr ⟨lw_p48, List.forall_mem_cons.mpr ⟨lw_p49, List.forall_mem_cons.mpr ⟨lw_p50, List.forall_mem_cons.mpr ⟨lw_p51, List.forall_mem_cons.mpr ⟨lw_p52, List.forall_mem_cons.mpr ⟨lw_p53, List.forall_mem_cons.mpr ⟨lw_p54, List.forall_mem_cons.mpr ⟨lw_p55, List.forall_mem_cons.mpr ⟨lw_p56, List.forall_mem_cons.mpr ⟨lw_p57, List.forall_mem_cons.mpr ⟨lw_p58, List.forall_mem_cons.mpr ⟨lw_p59, List.forall_mem_cons.mpr ⟨lw_p60, List.forall_mem_cons.mpr ⟨lw_p61, List.forall_mem_cons.mpr ⟨lw_p62, List.forall_mem_cons.mpr ⟨lw_p63, fun _ h => absurd h List.not_mem_nil⟩⟩⟩⟩⟩⟩⟩⟩⟩⟩⟩⟩⟩⟩⟩⟩
theorem lw_p64 : lw_okq (⟨"KitchenSheetsModel", "weighs", "([III)J"⟩, 41) := ⟨⟨by decide +kernel, by decide +kernel⟩, List.mem_of_getElem? (i := 1094) (by decide +kernel), List.mem_of_getElem? (i := 1507) (by decide +kernel), List.mem_of_getElem? (i := 1508) (by decide +kernel)⟩
theorem lw_p65 : lw_okq (⟨"KitchenSheetsModel", "weightOf", "(II[II)I"⟩, 41) := ⟨⟨by decide +kernel, by decide +kernel⟩, List.mem_of_getElem? (i := 1094) (by decide +kernel), List.mem_of_getElem? (i := 1511) (by decide +kernel), List.mem_of_getElem? (i := 1512) (by decide +kernel)⟩
theorem lw_p66 : lw_okq (⟨"KitchenSheetsModel", "asksOdds", "(II)V"⟩, 41) := ⟨⟨by decide +kernel, by decide +kernel⟩, List.mem_of_getElem? (i := 1094) (by decide +kernel), List.mem_of_getElem? (i := 1522) (by decide +kernel), List.mem_of_getElem? (i := 1523) (by decide +kernel)⟩
theorem lw_p67 : lw_okq (⟨"KitchenSheetsModel", "tells", "(JJ)Z"⟩, 41) := ⟨⟨by decide +kernel, by decide +kernel⟩, List.mem_of_getElem? (i := 1094) (by decide +kernel), List.mem_of_getElem? (i := 1526) (by decide +kernel), List.mem_of_getElem? (i := 1527) (by decide +kernel)⟩
theorem lw_p68 : lw_okq (⟨"KitchenSheetsModel", "wayOf", "(II)I"⟩, 41) := ⟨⟨by decide +kernel, by decide +kernel⟩, List.mem_of_getElem? (i := 1094) (by decide +kernel), List.mem_of_getElem? (i := 1538) (by decide +kernel), List.mem_of_getElem? (i := 1539) (by decide +kernel)⟩
theorem lw_p69 : lw_okq (⟨"KitchenSheetsModel", "stepsOf", "(II)I"⟩, 41) := ⟨⟨by decide +kernel, by decide +kernel⟩, List.mem_of_getElem? (i := 1094) (by decide +kernel), List.mem_of_getElem? (i := 1542) (by decide +kernel), List.mem_of_getElem? (i := 1543) (by decide +kernel)⟩
theorem lw_p70 : lw_okq (⟨"KitchenSheetsModel", "orders", "(I)V"⟩, 41) := ⟨⟨by decide +kernel, by decide +kernel⟩, List.mem_of_getElem? (i := 1094) (by decide +kernel), List.mem_of_getElem? (i := 1551) (by decide +kernel), List.mem_of_getElem? (i := 1552) (by decide +kernel)⟩
theorem lw_p71 : lw_okq (⟨"KitchenSheetsModel", "fits", "(II)Z"⟩, 41) := ⟨⟨by decide +kernel, by decide +kernel⟩, List.mem_of_getElem? (i := 1094) (by decide +kernel), List.mem_of_getElem? (i := 1555) (by decide +kernel), List.mem_of_getElem? (i := 1556) (by decide +kernel)⟩
theorem lw_p72 : lw_okq (⟨"KitchenSheetsModel", "differs", "(II)I"⟩, 41) := ⟨⟨by decide +kernel, by decide +kernel⟩, List.mem_of_getElem? (i := 1094) (by decide +kernel), List.mem_of_getElem? (i := 1568) (by decide +kernel), List.mem_of_getElem? (i := 1569) (by decide +kernel)⟩
theorem lw_p73 : lw_okq (⟨"KitchenSheetsModel", "rowsMany", "()I"⟩, 41) := ⟨⟨by decide +kernel, by decide +kernel⟩, List.mem_of_getElem? (i := 1094) (by decide +kernel), List.mem_of_getElem? (i := 1576) (by decide +kernel), List.mem_of_getElem? (i := 1577) (by decide +kernel)⟩
theorem lw_p74 : lw_okq (⟨"KitchenSheetsModel", "takesRow", "(I)V"⟩, 41) := ⟨⟨by decide +kernel, by decide +kernel⟩, List.mem_of_getElem? (i := 1094) (by decide +kernel), List.mem_of_getElem? (i := 1580) (by decide +kernel), List.mem_of_getElem? (i := 1581) (by decide +kernel)⟩
theorem lw_p75 : lw_okq (⟨"KitchenSheetsModel", "whole", "(I)J"⟩, 41) := ⟨⟨by decide +kernel, by decide +kernel⟩, List.mem_of_getElem? (i := 1094) (by decide +kernel), List.mem_of_getElem? (i := 1584) (by decide +kernel), List.mem_of_getElem? (i := 1585) (by decide +kernel)⟩
theorem lw_p76 : lw_okq (⟨"KitchenSheetsModel", "isAnswer", "(II)Z"⟩, 41) := ⟨⟨by decide +kernel, by decide +kernel⟩, List.mem_of_getElem? (i := 1094) (by decide +kernel), List.mem_of_getElem? (i := 1601) (by decide +kernel), List.mem_of_getElem? (i := 1602) (by decide +kernel)⟩
theorem lw_p77 : lw_okq (⟨"KitchenSheetsModel", "all", "()I"⟩, 41) := ⟨⟨by decide +kernel, by decide +kernel⟩, List.mem_of_getElem? (i := 1094) (by decide +kernel), List.mem_of_getElem? (i := 1605) (by decide +kernel), List.mem_of_getElem? (i := 1606) (by decide +kernel)⟩
theorem lw_p78 : lw_okq (⟨"KitchenSheetsModel", "countOf", "(III)I"⟩, 41) := ⟨⟨by decide +kernel, by decide +kernel⟩, List.mem_of_getElem? (i := 1094) (by decide +kernel), List.mem_of_getElem? (i := 1609) (by decide +kernel), List.mem_of_getElem? (i := 1610) (by decide +kernel)⟩
theorem lw_p79 : lw_okq (⟨"KitchenSheetsModel", "isRule", "(I)Z"⟩, 41) := ⟨⟨by decide +kernel, by decide +kernel⟩, List.mem_of_getElem? (i := 1094) (by decide +kernel), List.mem_of_getElem? (i := 1633) (by decide +kernel), List.mem_of_getElem? (i := 1634) (by decide +kernel)⟩
def lw_privs_5 : List (MethodName × Nat) := [(⟨"KitchenSheetsModel", "weighs", "([III)J"⟩, 41), (⟨"KitchenSheetsModel", "weightOf", "(II[II)I"⟩, 41), (⟨"KitchenSheetsModel", "asksOdds", "(II)V"⟩, 41), (⟨"KitchenSheetsModel", "tells", "(JJ)Z"⟩, 41), (⟨"KitchenSheetsModel", "wayOf", "(II)I"⟩, 41), (⟨"KitchenSheetsModel", "stepsOf", "(II)I"⟩, 41), (⟨"KitchenSheetsModel", "orders", "(I)V"⟩, 41), (⟨"KitchenSheetsModel", "fits", "(II)Z"⟩, 41), (⟨"KitchenSheetsModel", "differs", "(II)I"⟩, 41), (⟨"KitchenSheetsModel", "rowsMany", "()I"⟩, 41), (⟨"KitchenSheetsModel", "takesRow", "(I)V"⟩, 41), (⟨"KitchenSheetsModel", "whole", "(I)J"⟩, 41), (⟨"KitchenSheetsModel", "isAnswer", "(II)Z"⟩, 41), (⟨"KitchenSheetsModel", "all", "()I"⟩, 41), (⟨"KitchenSheetsModel", "countOf", "(III)I"⟩, 41), (⟨"KitchenSheetsModel", "isRule", "(I)Z"⟩, 41)]
theorem lw_r5 : ∀ q ∈ lw_privs_5, lw_okq q := List.forall_mem_cons.mpr ⟨lw_p64, List.forall_mem_cons.mpr ⟨lw_p65, List.forall_mem_cons.mpr ⟨lw_p66, List.forall_mem_cons.mpr ⟨lw_p67, List.forall_mem_cons.mpr ⟨lw_p68, List.forall_mem_cons.mpr ⟨lw_p69, List.forall_mem_cons.mpr ⟨lw_p70, List.forall_mem_cons.mpr ⟨lw_p71, List.forall_mem_cons.mpr ⟨lw_p72, List.forall_mem_cons.mpr ⟨lw_p73, List.forall_mem_cons.mpr ⟨lw_p74, List.forall_mem_cons.mpr ⟨lw_p75, List.forall_mem_cons.mpr ⟨lw_p76, List.forall_mem_cons.mpr ⟨lw_p77, List.forall_mem_cons.mpr ⟨lw_p78, List.forall_mem_cons.mpr ⟨lw_p79, fun _ h => absurd h List.not_mem_nil⟩⟩⟩⟩⟩⟩⟩⟩⟩⟩⟩⟩⟩⟩⟩⟩
theorem lw_p80 : lw_okq (⟨"KitchenSheetsModel", "flagsAll", "(I)I"⟩, 41) := ⟨⟨by decide +kernel, by decide +kernel⟩, List.mem_of_getElem? (i := 1094) (by decide +kernel), List.mem_of_getElem? (i := 1637) (by decide +kernel), List.mem_of_getElem? (i := 1638) (by decide +kernel)⟩
theorem lw_p81 : lw_okq (⟨"KitchenSheetsModel", "flags", "(II)Z"⟩, 41) := ⟨⟨by decide +kernel, by decide +kernel⟩, List.mem_of_getElem? (i := 1094) (by decide +kernel), List.mem_of_getElem? (i := 1641) (by decide +kernel), List.mem_of_getElem? (i := 1642) (by decide +kernel)⟩
theorem lw_p82 : lw_okq (⟨"KitchenSheetsModel", "says", "(III)Z"⟩, 41) := ⟨⟨by decide +kernel, by decide +kernel⟩, List.mem_of_getElem? (i := 1094) (by decide +kernel), List.mem_of_getElem? (i := 1645) (by decide +kernel), List.mem_of_getElem? (i := 1646) (by decide +kernel)⟩
theorem lw_p83 : lw_okq (⟨"KitchenSheetsModel", "isAmiss", "(I)Z"⟩, 41) := ⟨⟨by decide +kernel, by decide +kernel⟩, List.mem_of_getElem? (i := 1094) (by decide +kernel), List.mem_of_getElem? (i := 1649) (by decide +kernel), List.mem_of_getElem? (i := 1650) (by decide +kernel)⟩
theorem lw_p84 : lw_okq (⟨"KitchenSheetsModel", "worthOf", "(III)I"⟩, 41) := ⟨⟨by decide +kernel, by decide +kernel⟩, List.mem_of_getElem? (i := 1094) (by decide +kernel), List.mem_of_getElem? (i := 1668) (by decide +kernel), List.mem_of_getElem? (i := 1669) (by decide +kernel)⟩
theorem lw_p85 : lw_okq (⟨"KitchenSheetsModel", "draw", "(I)I"⟩, 41) := ⟨⟨by decide +kernel, by decide +kernel⟩, List.mem_of_getElem? (i := 1094) (by decide +kernel), List.mem_of_getElem? (i := 1690) (by decide +kernel), List.mem_of_getElem? (i := 1691) (by decide +kernel)⟩
theorem lw_p86 : lw_okq (⟨"KitchenSheetsModel", "copies", "(II)V"⟩, 41) := ⟨⟨by decide +kernel, by decide +kernel⟩, List.mem_of_getElem? (i := 1094) (by decide +kernel), List.mem_of_getElem? (i := 1703) (by decide +kernel), List.mem_of_getElem? (i := 1704) (by decide +kernel)⟩
def lw_privs_6 : List (MethodName × Nat) := [(⟨"KitchenSheetsModel", "flagsAll", "(I)I"⟩, 41), (⟨"KitchenSheetsModel", "flags", "(II)Z"⟩, 41), (⟨"KitchenSheetsModel", "says", "(III)Z"⟩, 41), (⟨"KitchenSheetsModel", "isAmiss", "(I)Z"⟩, 41), (⟨"KitchenSheetsModel", "worthOf", "(III)I"⟩, 41), (⟨"KitchenSheetsModel", "draw", "(I)I"⟩, 41), (⟨"KitchenSheetsModel", "copies", "(II)V"⟩, 41)]
theorem lw_r6 : ∀ q ∈ lw_privs_6, lw_okq q := List.forall_mem_cons.mpr ⟨lw_p80, List.forall_mem_cons.mpr ⟨lw_p81, List.forall_mem_cons.mpr ⟨lw_p82, List.forall_mem_cons.mpr ⟨lw_p83, List.forall_mem_cons.mpr ⟨lw_p84, List.forall_mem_cons.mpr ⟨lw_p85, List.forall_mem_cons.mpr ⟨lw_p86, fun _ h => absurd h List.not_mem_nil⟩⟩⟩⟩⟩⟩⟩
def lw_privs : List (MethodName × Nat) := lw_privs_1 ++ (lw_privs_2 ++ (lw_privs_3 ++ (lw_privs_4 ++ (lw_privs_5 ++ (lw_privs_6)))))
def lw_tbl : List Cond := k2_sels lw_privs ++ tables_1
theorem lw_privs_ok : ∀ q ∈ lw_privs, lw_okq q := by
  show ∀ q ∈ lw_privs_1 ++ (lw_privs_2 ++ (lw_privs_3 ++ (lw_privs_4 ++ (lw_privs_5 ++ (lw_privs_6))))), lw_okq q
  exact List.forall_mem_append.mpr ⟨lw_r1, List.forall_mem_append.mpr ⟨lw_r2, List.forall_mem_append.mpr ⟨lw_r3, List.forall_mem_append.mpr ⟨lw_r4, List.forall_mem_append.mpr ⟨lw_r5, lw_r6⟩⟩⟩⟩⟩

def RX0 : String := "KitchenSheets$Checks"
def TX0 : u_T := fun k => match k with
  | 0 => ("KitchenSheets$Checks", "state", "LKitchenSheets$State;", true)
  | 1 => ("KitchenSheets$Checks", "sums", "[I", true)
  | _ => ("KitchenSheets$Checks", "sets", "[I", true)
def tyX0 : Nat → FieldType := fun k => match k with
  | 0 => .object "KitchenSheets$State"
  | 1 => .array .int
  | _ => .array .int
abbrev wsX00 : List Cond := u_ws RX0 TX0 3
theorem nmX0 : ∀ a, a < 3 → ∀ b, b < 3 → a ≠ b → (TX0 a).2.1 ≠ (TX0 b).2.1 := by decide +kernel
theorem tyX0_ok : ∀ k, k < 3 → parseFieldDescriptor (TX0 k).2.2.1 = some (tyX0 k) := by decide +kernel
abbrev cX0_init : ByteArray := prog_2_method_1_code
def yX0_init : MethodName := ⟨RX0, "<init>", "(LKitchenSheets$State;)V"⟩
abbrev cX0_choose : ByteArray := prog_2_method_2_code
def yX0_choose : MethodName := ⟨RX0, "choose", "(II)V"⟩
def RX1 : String := "KitchenSheets$Hours"
def TX1 : u_T := fun k => match k with
  | 0 => ("KitchenSheets$Hours", "state", "LKitchenSheets$State;", true)
  | 1 => ("KitchenSheets$Hours", "inOrder", "[I", true)
  | _ => ("KitchenSheets$Hours", "longest", "[I", true)
def tyX1 : Nat → FieldType := fun k => match k with
  | 0 => .object "KitchenSheets$State"
  | 1 => .array .int
  | _ => .array .int
abbrev wsX10 : List Cond := u_ws RX1 TX1 3
theorem nmX1 : ∀ a, a < 3 → ∀ b, b < 3 → a ≠ b → (TX1 a).2.1 ≠ (TX1 b).2.1 := by decide +kernel
theorem tyX1_ok : ∀ k, k < 3 → parseFieldDescriptor (TX1 k).2.2.1 = some (tyX1 k) := by decide +kernel
abbrev cX1_init : ByteArray := prog_3_method_1_code
def yX1_init : MethodName := ⟨RX1, "<init>", "(LKitchenSheets$State;)V"⟩
abbrev cX1_putInOrder : ByteArray := prog_3_method_2_code
def yX1_putInOrder : MethodName := ⟨RX1, "putInOrder", "(I)I"⟩
abbrev cX1_longestWalk : ByteArray := prog_3_method_3_code
def yX1_longestWalk : MethodName := ⟨RX1, "longestWalk", "(I)I"⟩
abbrev cX1_measureWalks : ByteArray := prog_3_method_4_code
def yX1_measureWalks : MethodName := ⟨RX1, "measureWalks", "(I)I"⟩
abbrev cX1_worthSet : ByteArray := prog_3_method_5_code
def yX1_worthSet : MethodName := ⟨RX1, "worthSet", "(II)I"⟩
def RX2 : String := "KitchenSheets$Judge"
def TX2 : u_T := fun k => match k with
  | 0 => ("KitchenSheets$Judge", "state", "LKitchenSheets$State;", true)
  | 1 => ("KitchenSheets$Judge", "sheet", "I", false)
  | 2 => ("KitchenSheets$Judge", "took", "I", false)
  | 3 => ("KitchenSheets$Judge", "end", "I", false)
  | 4 => ("KitchenSheets$Judge", "card", "I", false)
  | 5 => ("KitchenSheets$Judge", "isAmiss", "Z", false)
  | 6 => ("KitchenSheets$Judge", "same", "I", false)
  | 7 => ("KitchenSheets$Judge", "law", "I", false)
  | _ => ("KitchenSheets$Judge", "made", "J", false)
def tyX2 : Nat → FieldType := fun k => match k with
  | 0 => .object "KitchenSheets$State"
  | 1 => .int
  | 2 => .int
  | 3 => .int
  | 4 => .int
  | 5 => .boolean
  | 6 => .int
  | 7 => .int
  | _ => .long
abbrev wsX20 : List Cond := u_ws RX2 TX2 9
theorem nmX2 : ∀ a, a < 9 → ∀ b, b < 9 → a ≠ b → (TX2 a).2.1 ≠ (TX2 b).2.1 := by decide +kernel
theorem tyX2_ok : ∀ k, k < 9 → parseFieldDescriptor (TX2 k).2.2.1 = some (tyX2 k) := by decide +kernel
abbrev cX2_init : ByteArray := prog_4_method_1_code
def yX2_init : MethodName := ⟨RX2, "<init>", "(LKitchenSheets$State;)V"⟩
abbrev cX2_flaggedSet : ByteArray := prog_4_method_2_code
def yX2_flaggedSet : MethodName := ⟨RX2, "flaggedSet", "(I)I"⟩
abbrev cX2_nearestHidden : ByteArray := prog_4_method_3_code
def yX2_nearestHidden : MethodName := ⟨RX2, "nearestHidden", "(II)I"⟩
abbrev cX2_search : ByteArray := prog_4_method_4_code
def yX2_search : MethodName := ⟨RX2, "search", "(LKitchenSheets$Judge;IIII)I"⟩
abbrev cX2_view : ByteArray := prog_4_method_5_code
def yX2_view : MethodName := ⟨RX2, "view", "(I)V"⟩
abbrev cX2_suppose : ByteArray := prog_4_method_6_code
def yX2_suppose : MethodName := ⟨RX2, "suppose", "(I)V"⟩
abbrev cX2_flags : ByteArray := prog_4_method_7_code
def yX2_flags : MethodName := ⟨RX2, "flags", "(I)Z"⟩
abbrev cX2_holds : ByteArray := prog_4_method_8_code
def yX2_holds : MethodName := ⟨RX2, "holds", "(II)Z"⟩
def RX3 : String := "KitchenSheets$Land"
def TX3 : u_T := fun k => match k with
  | 0 => ("KitchenSheets$Land", "questions", "I", false)
  | 1 => ("KitchenSheets$Land", "names", "[J", true)
  | 2 => ("KitchenSheets$Land", "choices", "[I", true)
  | 3 => ("KitchenSheets$Land", "law", "LKitchenSheets$Table;", true)
  | 4 => ("KitchenSheets$Land", "mind", "LKitchenSheets$Table;", true)
  | 5 => ("KitchenSheets$Land", "doors", "I", false)
  | 6 => ("KitchenSheets$Land", "doorX", "[I", true)
  | 7 => ("KitchenSheets$Land", "doorY", "[I", true)
  | 8 => ("KitchenSheets$Land", "walk", "I", false)
  | 9 => ("KitchenSheets$Land", "askedSayYes", "I", false)
  | _ => ("KitchenSheets$Land", "madeSayYes", "I", false)
def tyX3 : Nat → FieldType := fun k => match k with
  | 0 => .int
  | 1 => .array .long
  | 2 => .array .int
  | 3 => .object "KitchenSheets$Table"
  | 4 => .object "KitchenSheets$Table"
  | 5 => .int
  | 6 => .array .int
  | 7 => .array .int
  | 8 => .int
  | 9 => .int
  | _ => .int
abbrev wsX30 : List Cond := u_ws RX3 TX3 11
theorem nmX3 : ∀ a, a < 11 → ∀ b, b < 11 → a ≠ b → (TX3 a).2.1 ≠ (TX3 b).2.1 := by decide +kernel
theorem tyX3_ok : ∀ k, k < 11 → parseFieldDescriptor (TX3 k).2.2.1 = some (tyX3 k) := by decide +kernel
abbrev cX3_init : ByteArray := prog_5_method_1_code
def yX3_init : MethodName := ⟨RX3, "<init>", "()V"⟩
abbrev cX3_clear : ByteArray := prog_5_method_2_code
def yX3_clear : MethodName := ⟨RX3, "clear", "()V"⟩
abbrev cX3_copyFrom : ByteArray := prog_5_method_3_code
def yX3_copyFrom : MethodName := ⟨RX3, "copyFrom", "(LKitchenSheets$Land;)V"⟩
abbrev cX3_find : ByteArray := prog_5_method_4_code
def yX3_find : MethodName := ⟨RX3, "find", "(J)I"⟩
abbrev cX3_shareOutUntold : ByteArray := prog_5_method_5_code
def yX3_shareOutUntold : MethodName := ⟨RX3, "shareOutUntold", "()V"⟩
abbrev cX3_rowsOf : ByteArray := prog_5_method_6_code
def yX3_rowsOf : MethodName := ⟨RX3, "rowsOf", "(LKitchenSheets$Table;I)I"⟩
abbrev cX3_product : ByteArray := prog_5_method_7_code
def yX3_product : MethodName := ⟨RX3, "product", "(II)I"⟩
abbrev cX3_cardWeight : ByteArray := prog_5_method_8_code
def yX3_cardWeight : MethodName := ⟨RX3, "cardWeight", "(II)I"⟩
abbrev cX3_stepsBetween : ByteArray := prog_5_method_9_code
def yX3_stepsBetween : MethodName := ⟨RX3, "stepsBetween", "(II)I"⟩
abbrev cX3_minutesBetween : ByteArray := prog_5_method_10_code
def yX3_minutesBetween : MethodName := ⟨RX3, "minutesBetween", "(II)I"⟩
def RX4 : String := "KitchenSheets$LandReader"
def TX4 : u_T := fun k => match k with
  | 0 => ("KitchenSheets$LandReader", "tokens", "LKitchenSheets$Tokens;", true)
  | 1 => ("KitchenSheets$LandReader", "walkIsTold", "Z", false)
  | _ => ("KitchenSheets$LandReader", "cardsAreTold", "Z", false)
def tyX4 : Nat → FieldType := fun k => match k with
  | 0 => .object "KitchenSheets$Tokens"
  | 1 => .boolean
  | _ => .boolean
abbrev wsX40 : List Cond := u_ws RX4 TX4 3
theorem nmX4 : ∀ a, a < 3 → ∀ b, b < 3 → a ≠ b → (TX4 a).2.1 ≠ (TX4 b).2.1 := by decide +kernel
theorem tyX4_ok : ∀ k, k < 3 → parseFieldDescriptor (TX4 k).2.2.1 = some (tyX4 k) := by decide +kernel
abbrev cX4_init : ByteArray := prog_6_method_1_code
def yX4_init : MethodName := ⟨RX4, "<init>", "(LKitchenSheets$Tokens;)V"⟩
abbrev cX4_take : ByteArray := prog_6_method_2_code
def yX4_take : MethodName := ⟨RX4, "take", "(LKitchenSheets$Land;I)Z"⟩
abbrev cX4_takeAsk : ByteArray := prog_6_method_3_code
def yX4_takeAsk : MethodName := ⟨RX4, "takeAsk", "(LKitchenSheets$Land;)V"⟩
abbrev cX4_takeTable : ByteArray := prog_6_method_4_code
def yX4_takeTable : MethodName := ⟨RX4, "takeTable", "(LKitchenSheets$Land;LKitchenSheets$Table;)V"⟩
abbrev cX4_knownName : ByteArray := prog_6_method_5_code
def yX4_knownName : MethodName := ⟨RX4, "knownName", "(LKitchenSheets$Land;I)I"⟩
abbrev cX4_isName : ByteArray := prog_6_method_6_code
def yX4_isName : MethodName := ⟨RX4, "isName", "(J)Z"⟩
abbrev cX4_takeWeights : ByteArray := prog_6_method_7_code
def yX4_takeWeights : MethodName := ⟨RX4, "takeWeights", "(LKitchenSheets$Table;III)V"⟩
abbrev cX4_takeDoor : ByteArray := prog_6_method_8_code
def yX4_takeDoor : MethodName := ⟨RX4, "takeDoor", "(LKitchenSheets$Land;)V"⟩
abbrev cX4_takeWalk : ByteArray := prog_6_method_9_code
def yX4_takeWalk : MethodName := ⟨RX4, "takeWalk", "(LKitchenSheets$Land;)V"⟩
abbrev cX4_takeCards : ByteArray := prog_6_method_10_code
def yX4_takeCards : MethodName := ⟨RX4, "takeCards", "(LKitchenSheets$Land;)V"⟩
def RX5 : String := "KitchenSheets$Rules"
def TX5 : u_T := fun k => match k with
  | 0 => ("KitchenSheets$Rules", "count", "I", false)
  | 1 => ("KitchenSheets$Rules", "length", "I", false)
  | 2 => ("KitchenSheets$Rules", "starts", "[I", true)
  | _ => ("KitchenSheets$Rules", "code", "[I", true)
def tyX5 : Nat → FieldType := fun k => match k with
  | 0 => .int
  | 1 => .int
  | 2 => .array .int
  | _ => .array .int
abbrev wsX50 : List Cond := u_ws RX5 TX5 4
theorem nmX5 : ∀ a, a < 4 → ∀ b, b < 4 → a ≠ b → (TX5 a).2.1 ≠ (TX5 b).2.1 := by decide +kernel
theorem tyX5_ok : ∀ k, k < 4 → parseFieldDescriptor (TX5 k).2.2.1 = some (tyX5 k) := by decide +kernel
abbrev cX5_init : ByteArray := prog_7_method_1_code
def yX5_init : MethodName := ⟨RX5, "<init>", "()V"⟩
abbrev cX5_clear : ByteArray := prog_7_method_2_code
def yX5_clear : MethodName := ⟨RX5, "clear", "()V"⟩
abbrev cX5_copyFrom : ByteArray := prog_7_method_3_code
def yX5_copyFrom : MethodName := ⟨RX5, "copyFrom", "(LKitchenSheets$Rules;)V"⟩
abbrev cX5_addStep : ByteArray := prog_7_method_4_code
def yX5_addStep : MethodName := ⟨RX5, "addStep", "(II)V"⟩
abbrev cX5_endRule : ByteArray := prog_7_method_5_code
def yX5_endRule : MethodName := ⟨RX5, "endRule", "()V"⟩
abbrev cX5_goesByAnswers : ByteArray := prog_7_method_6_code
def yX5_goesByAnswers : MethodName := ⟨RX5, "goesByAnswers", "(I)Z"⟩
def RX6 : String := "KitchenSheets$RulesReader"
def TX6 : u_T := fun k => match k with
  | 0 => ("KitchenSheets$RulesReader", "tokens", "LKitchenSheets$Tokens;", true)
  | _ => ("KitchenSheets$RulesReader", "tests", "I", false)
def tyX6 : Nat → FieldType := fun k => match k with
  | 0 => .object "KitchenSheets$Tokens"
  | _ => .int
abbrev wsX60 : List Cond := u_ws RX6 TX6 2
theorem nmX6 : ∀ a, a < 2 → ∀ b, b < 2 → a ≠ b → (TX6 a).2.1 ≠ (TX6 b).2.1 := by decide +kernel
theorem tyX6_ok : ∀ k, k < 2 → parseFieldDescriptor (TX6 k).2.2.1 = some (tyX6 k) := by decide +kernel
abbrev cX6_init : ByteArray := prog_8_method_1_code
def yX6_init : MethodName := ⟨RX6, "<init>", "(LKitchenSheets$Tokens;)V"⟩
abbrev cX6_take : ByteArray := prog_8_method_2_code
def yX6_take : MethodName := ⟨RX6, "take", "(LKitchenSheets$Rules;I)Z"⟩
abbrev cX6_takeTerms : ByteArray := prog_8_method_3_code
def yX6_takeTerms : MethodName := ⟨RX6, "takeTerms", "(LKitchenSheets$Rules;I)V"⟩
abbrev cX6_takeTerm : ByteArray := prog_8_method_4_code
def yX6_takeTerm : MethodName := ⟨RX6, "takeTerm", "(LKitchenSheets$Rules;I)V"⟩
abbrev cX6_takeTest : ByteArray := prog_8_method_5_code
def yX6_takeTest : MethodName := ⟨RX6, "takeTest", "(LKitchenSheets$Rules;I)V"⟩
abbrev cX6_mostOf : ByteArray := prog_8_method_6_code
def yX6_mostOf : MethodName := ⟨RX6, "mostOf", "(I)I"⟩
abbrev cX6_stepOf : ByteArray := prog_8_method_7_code
def yX6_stepOf : MethodName := ⟨RX6, "stepOf", "(J)I"⟩
def RX7 : String := "KitchenSheets$State"
def TX7 : u_T := fun k => match k with
  | 0 => ("KitchenSheets$State", "land", "LKitchenSheets$Land;", false)
  | 1 => ("KitchenSheets$State", "rules", "LKitchenSheets$Rules;", false)
  | 2 => ("KitchenSheets$State", "count", "I", false)
  | 3 => ("KitchenSheets$State", "asker", "[I", true)
  | 4 => ("KitchenSheets$State", "door", "[I", true)
  | 5 => ("KitchenSheets$State", "from", "[I", true)
  | 6 => ("KitchenSheets$State", "to", "[I", true)
  | 7 => ("KitchenSheets$State", "answers", "[I", true)
  | 8 => ("KitchenSheets$State", "card", "[I", true)
  | 9 => ("KitchenSheets$State", "truth", "[I", true)
  | 10 => ("KitchenSheets$State", "madeFrom", "[I", true)
  | _ => ("KitchenSheets$State", "seed", "I", false)
def tyX7 : Nat → FieldType := fun k => match k with
  | 0 => .object "KitchenSheets$Land"
  | 1 => .object "KitchenSheets$Rules"
  | 2 => .int
  | 3 => .array .int
  | 4 => .array .int
  | 5 => .array .int
  | 6 => .array .int
  | 7 => .array .int
  | 8 => .array .int
  | 9 => .array .int
  | 10 => .array .int
  | _ => .int
abbrev wsX70 : List Cond := u_ws RX7 TX7 12
theorem nmX7 : ∀ a, a < 12 → ∀ b, b < 12 → a ≠ b → (TX7 a).2.1 ≠ (TX7 b).2.1 := by decide +kernel
theorem tyX7_ok : ∀ k, k < 12 → parseFieldDescriptor (TX7 k).2.2.1 = some (tyX7 k) := by decide +kernel
abbrev cX7_init : ByteArray := prog_9_method_1_code
def yX7_init : MethodName := ⟨RX7, "<init>", "()V"⟩
abbrev cX7_copyFrom : ByteArray := prog_9_method_2_code
def yX7_copyFrom : MethodName := ⟨RX7, "copyFrom", "(LKitchenSheets$State;)V"⟩
abbrev cX7_couldAdd : ByteArray := prog_9_method_3_code
def yX7_couldAdd : MethodName := ⟨RX7, "couldAdd", "([J)Z"⟩
abbrev cX7_add : ByteArray := prog_9_method_4_code
def yX7_add : MethodName := ⟨RX7, "add", "([J)I"⟩
abbrev cX7_sameAnswer : ByteArray := prog_9_method_5_code
def yX7_sameAnswer : MethodName := ⟨RX7, "sameAnswer", "(III)Z"⟩
abbrev cX7_countAlike : ByteArray := prog_9_method_6_code
def yX7_countAlike : MethodName := ⟨RX7, "countAlike", "(II)I"⟩
abbrev cX7_isRepeated : ByteArray := prog_9_method_7_code
def yX7_isRepeated : MethodName := ⟨RX7, "isRepeated", "(I)Z"⟩
abbrev cX7_countWith : ByteArray := prog_9_method_8_code
def yX7_countWith : MethodName := ⟨RX7, "countWith", "(III)I"⟩
abbrev cX7_madeSide : ByteArray := prog_9_method_9_code
def yX7_madeSide : MethodName := ⟨RX7, "madeSide", "(III)J"⟩
abbrev cX7_askedSide : ByteArray := prog_9_method_10_code
def yX7_askedSide : MethodName := ⟨RX7, "askedSide", "(III)J"⟩
abbrev cX7_isAhead : ByteArray := prog_9_method_11_code
def yX7_isAhead : MethodName := ⟨RX7, "isAhead", "(II)Z"⟩
abbrev cX7_fits : ByteArray := prog_9_method_12_code
def yX7_fits : MethodName := ⟨RX7, "fits", "(II)Z"⟩
abbrev cX7_areAmiss : ByteArray := prog_9_method_13_code
def yX7_areAmiss : MethodName := ⟨RX7, "areAmiss", "(II)Z"⟩
abbrev cX7_setOfTruth : ByteArray := prog_9_method_14_code
def yX7_setOfTruth : MethodName := ⟨RX7, "setOfTruth", "(I)I"⟩
abbrev cX7_drawWorld : ByteArray := prog_9_method_15_code
def yX7_drawWorld : MethodName := ⟨RX7, "drawWorld", "(III)I"⟩
abbrev cX7_drawAnswers : ByteArray := prog_9_method_16_code
def yX7_drawAnswers : MethodName := ⟨RX7, "drawAnswers", "(I)I"⟩
abbrev cX7_draw : ByteArray := prog_9_method_17_code
def yX7_draw : MethodName := ⟨RX7, "draw", "(I)I"⟩
def RX8 : String := "KitchenSheets$Table"
def TX8 : u_T := fun k => match k with
  | 0 => ("KitchenSheets$Table", "by", "[I", true)
  | 1 => ("KitchenSheets$Table", "isTold", "[Z", true)
  | _ => ("KitchenSheets$Table", "weights", "[I", true)
def tyX8 : Nat → FieldType := fun k => match k with
  | 0 => .array .int
  | 1 => .array .boolean
  | _ => .array .int
abbrev wsX80 : List Cond := u_ws RX8 TX8 3
theorem nmX8 : ∀ a, a < 3 → ∀ b, b < 3 → a ≠ b → (TX8 a).2.1 ≠ (TX8 b).2.1 := by decide +kernel
theorem tyX8_ok : ∀ k, k < 3 → parseFieldDescriptor (TX8 k).2.2.1 = some (tyX8 k) := by decide +kernel
abbrev cX8_init : ByteArray := prog_10_method_1_code
def yX8_init : MethodName := ⟨RX8, "<init>", "()V"⟩
abbrev cX8_clear : ByteArray := prog_10_method_2_code
def yX8_clear : MethodName := ⟨RX8, "clear", "()V"⟩
abbrev cX8_copyFrom : ByteArray := prog_10_method_3_code
def yX8_copyFrom : MethodName := ⟨RX8, "copyFrom", "(LKitchenSheets$Table;)V"⟩
abbrev cX8_weightIn : ByteArray := prog_10_method_4_code
def yX8_weightIn : MethodName := ⟨RX8, "weightIn", "(II)I"⟩
abbrev cX8_shareOut : ByteArray := prog_10_method_5_code
def yX8_shareOut : MethodName := ⟨RX8, "shareOut", "(II)V"⟩
abbrev cX8_drawnAnswer : ByteArray := prog_10_method_6_code
def yX8_drawnAnswer : MethodName := ⟨RX8, "drawnAnswer", "(IIII)I"⟩
def RX9 : String := "KitchenSheets$Tokens"
def TX9 : u_T := fun k => match k with
  | 0 => ("KitchenSheets$Tokens", "text", "[B", true)
  | 1 => ("KitchenSheets$Tokens", "fed", "I", false)
  | 2 => ("KitchenSheets$Tokens", "faultKind", "I", false)
  | 3 => ("KitchenSheets$Tokens", "faultPlace", "I", false)
  | 4 => ("KitchenSheets$Tokens", "word", "J", false)
  | 5 => ("KitchenSheets$Tokens", "number", "I", false)
  | 6 => ("KitchenSheets$Tokens", "kind", "I", false)
  | 7 => ("KitchenSheets$Tokens", "place", "I", false)
  | 8 => ("KitchenSheets$Tokens", "next", "I", false)
  | _ => ("KitchenSheets$Tokens", "end", "I", false)
def tyX9 : Nat → FieldType := fun k => match k with
  | 0 => .array .byte
  | 1 => .int
  | 2 => .int
  | 3 => .int
  | 4 => .long
  | 5 => .int
  | 6 => .int
  | 7 => .int
  | 8 => .int
  | _ => .int
abbrev wsX90 : List Cond := u_ws RX9 TX9 10
theorem nmX9 : ∀ a, a < 10 → ∀ b, b < 10 → a ≠ b → (TX9 a).2.1 ≠ (TX9 b).2.1 := by decide +kernel
theorem tyX9_ok : ∀ k, k < 10 → parseFieldDescriptor (TX9 k).2.2.1 = some (tyX9 k) := by decide +kernel
abbrev cX9_init : ByteArray := prog_11_method_1_code
def yX9_init : MethodName := ⟨RX9, "<init>", "()V"⟩
abbrev cX9_feedInt : ByteArray := prog_11_method_2_code
def yX9_feedInt : MethodName := ⟨RX9, "feedInt", "(I)V"⟩
abbrev cX9_start : ByteArray := prog_11_method_3_code
def yX9_start : MethodName := ⟨RX9, "start", "(I)V"⟩
abbrev cX9_isSound : ByteArray := prog_11_method_4_code
def yX9_isSound : MethodName := ⟨RX9, "isSound", "()Z"⟩
abbrev cX9_hasMore : ByteArray := prog_11_method_5_code
def yX9_hasMore : MethodName := ⟨RX9, "hasMore", "()Z"⟩
abbrev cX9_isNumber : ByteArray := prog_11_method_6_code
def yX9_isNumber : MethodName := ⟨RX9, "isNumber", "()Z"⟩
abbrev cX9_isSign : ByteArray := prog_11_method_7_code
def yX9_isSign : MethodName := ⟨RX9, "isSign", "(C)Z"⟩
abbrev cX9_fail : ByteArray := prog_11_method_8_code
def yX9_fail : MethodName := ⟨RX9, "fail", "(I)V"⟩
abbrev cX9_advance : ByteArray := prog_11_method_9_code
def yX9_advance : MethodName := ⟨RX9, "advance", "()V"⟩
abbrev cX9_takeWord : ByteArray := prog_11_method_10_code
def yX9_takeWord : MethodName := ⟨RX9, "takeWord", "()V"⟩
abbrev cX9_takeNumber : ByteArray := prog_11_method_11_code
def yX9_takeNumber : MethodName := ⟨RX9, "takeNumber", "()V"⟩
abbrev cX9_numberWithin : ByteArray := prog_11_method_12_code
def yX9_numberWithin : MethodName := ⟨RX9, "numberWithin", "(II)I"⟩
abbrev cX9_takeNumberWithin : ByteArray := prog_11_method_13_code
def yX9_takeNumberWithin : MethodName := ⟨RX9, "takeNumberWithin", "(II)I"⟩
abbrev cX9_takeSign : ByteArray := prog_11_method_14_code
def yX9_takeSign : MethodName := ⟨RX9, "takeSign", "(C)V"⟩
def RX10 : String := "KitchenSheets$Tray"
def TX10 : u_T := fun k => match k with
  | 0 => ("KitchenSheets$Tray", "sort", "I", false)
  | 1 => ("KitchenSheets$Tray", "many", "I", false)
  | _ => ("KitchenSheets$Tray", "numbers", "[J", true)
def tyX10 : Nat → FieldType := fun k => match k with
  | 0 => .int
  | 1 => .int
  | _ => .array .long
abbrev wsX100 : List Cond := u_ws RX10 TX10 3
theorem nmX10 : ∀ a, a < 3 → ∀ b, b < 3 → a ≠ b → (TX10 a).2.1 ≠ (TX10 b).2.1 := by decide +kernel
theorem tyX10_ok : ∀ k, k < 3 → parseFieldDescriptor (TX10 k).2.2.1 = some (tyX10 k) := by decide +kernel
abbrev cX10_init : ByteArray := prog_12_method_1_code
def yX10_init : MethodName := ⟨RX10, "<init>", "()V"⟩
abbrev cX10_isMissing : ByteArray := prog_12_method_2_code
def yX10_isMissing : MethodName := ⟨RX10, "isMissing", "()Z"⟩
abbrev cX10_lay : ByteArray := prog_12_method_3_code
def yX10_lay : MethodName := ⟨RX10, "lay", "(II)V"⟩
abbrev cX10_put : ByteArray := prog_12_method_4_code
def yX10_put : MethodName := ⟨RX10, "put", "(IJ)V"⟩
def RX11 : String := "KitchenSheets"
def TX11 : u_T := fun k => match k with
  | 0 => ("KitchenSheets", "trays", "[LKitchenSheets$Tray;", true)
  | 1 => ("KitchenSheets", "tokens", "LKitchenSheets$Tokens;", true)
  | 2 => ("KitchenSheets", "landReader", "LKitchenSheets$LandReader;", true)
  | 3 => ("KitchenSheets", "rulesReader", "LKitchenSheets$RulesReader;", true)
  | 4 => ("KitchenSheets", "now", "LKitchenSheets$State;", true)
  | 5 => ("KitchenSheets", "marks", "[LKitchenSheets$State;", true)
  | 6 => ("KitchenSheets", "hours", "LKitchenSheets$Hours;", true)
  | 7 => ("KitchenSheets", "judge", "LKitchenSheets$Judge;", true)
  | 8 => ("KitchenSheets", "checks", "LKitchenSheets$Checks;", true)
  | 9 => ("KitchenSheets", "spareLand", "LKitchenSheets$Land;", false)
  | 10 => ("KitchenSheets", "spareRules", "LKitchenSheets$Rules;", false)
  | 11 => ("KitchenSheets", "status", "I", false)
  | 12 => ("KitchenSheets", "top", "J", false)
  | 13 => ("KitchenSheets", "bottom", "J", false)
  | 14 => ("KitchenSheets", "markCount", "I", false)
  | 15 => ("KitchenSheets", "wasRead", "Z", false)
  | 16 => ("KitchenSheets", "hiddenAnswers", "I", false)
  | 17 => ("KitchenSheets", "hiddenQuestions", "I", false)
  | _ => ("KitchenSheets", "foundSum", "I", false)
def tyX11 : Nat → FieldType := fun k => match k with
  | 0 => .array (.object "KitchenSheets$Tray")
  | 1 => .object "KitchenSheets$Tokens"
  | 2 => .object "KitchenSheets$LandReader"
  | 3 => .object "KitchenSheets$RulesReader"
  | 4 => .object "KitchenSheets$State"
  | 5 => .array (.object "KitchenSheets$State")
  | 6 => .object "KitchenSheets$Hours"
  | 7 => .object "KitchenSheets$Judge"
  | 8 => .object "KitchenSheets$Checks"
  | 9 => .object "KitchenSheets$Land"
  | 10 => .object "KitchenSheets$Rules"
  | 11 => .int
  | 12 => .long
  | 13 => .long
  | 14 => .int
  | 15 => .boolean
  | 16 => .int
  | 17 => .int
  | _ => .int
abbrev wsX110 : List Cond := u_ws RX11 TX11 19
theorem nmX11 : ∀ a, a < 19 → ∀ b, b < 19 → a ≠ b → (TX11 a).2.1 ≠ (TX11 b).2.1 := by decide +kernel
theorem tyX11_ok : ∀ k, k < 19 → parseFieldDescriptor (TX11 k).2.2.1 = some (tyX11 k) := by decide +kernel
abbrev cX11_init : ByteArray := prog_1_method_1_code
def yX11_init : MethodName := ⟨RX11, "<init>", "()V"⟩
abbrev cX11_status : ByteArray := prog_1_method_2_code
def yX11_status : MethodName := ⟨RX11, "status", "()I"⟩
abbrev cX11_top : ByteArray := prog_1_method_3_code
def yX11_top : MethodName := ⟨RX11, "top", "()J"⟩
abbrev cX11_bottom : ByteArray := prog_1_method_4_code
def yX11_bottom : MethodName := ⟨RX11, "bottom", "()J"⟩
abbrev cX11_tray : ByteArray := prog_1_method_5_code
def yX11_tray : MethodName := ⟨RX11, "tray", "(III)Z"⟩
abbrev cX11_write : ByteArray := prog_1_method_6_code
def yX11_write : MethodName := ⟨RX11, "write", "(IIJ)Z"⟩
abbrev cX11_read : ByteArray := prog_1_method_7_code
def yX11_read : MethodName := ⟨RX11, "read", "(II)J"⟩
abbrev cX11_pour : ByteArray := prog_1_method_8_code
def yX11_pour : MethodName := ⟨RX11, "pour", "(IIIII)Z"⟩
abbrev cX11_feed : ByteArray := prog_1_method_9_code
def yX11_feed : MethodName := ⟨RX11, "feed", "(IIIII)I"⟩
abbrev cX11_land : ByteArray := prog_1_method_10_code
def yX11_land : MethodName := ⟨RX11, "land", "(I)I"⟩
abbrev cX11_rules : ByteArray := prog_1_method_11_code
def yX11_rules : MethodName := ⟨RX11, "rules", "(I)I"⟩
abbrev cX11_fault : ByteArray := prog_1_method_12_code
def yX11_fault : MethodName := ⟨RX11, "fault", "(I)I"⟩
abbrev cX11_told : ByteArray := prog_1_method_13_code
def yX11_told : MethodName := ⟨RX11, "told", "(I)I"⟩
abbrev cX11_question : ByteArray := prog_1_method_14_code
def yX11_question : MethodName := ⟨RX11, "question", "(II)I"⟩
abbrev cX11_weight : ByteArray := prog_1_method_15_code
def yX11_weight : MethodName := ⟨RX11, "weight", "(IZII)I"⟩
abbrev cX11_sheet : ByteArray := prog_1_method_16_code
def yX11_sheet : MethodName := ⟨RX11, "sheet", "(I)I"⟩
abbrev cX11_look : ByteArray := prog_1_method_17_code
def yX11_look : MethodName := ⟨RX11, "look", "(II)I"⟩
abbrev cX11_alter : ByteArray := prog_1_method_18_code
def yX11_alter : MethodName := ⟨RX11, "alter", "(III)Z"⟩
abbrev cX11_card : ByteArray := prog_1_method_19_code
def yX11_card : MethodName := ⟨RX11, "card", "(II)Z"⟩
abbrev cX11_sheetWeight : ByteArray := prog_1_method_20_code
def yX11_sheetWeight : MethodName := ⟨RX11, "sheetWeight", "(IZ)I"⟩
abbrev cX11_odds : ByteArray := prog_1_method_21_code
def yX11_odds : MethodName := ⟨RX11, "odds", "(II)Z"⟩
abbrev cX11_half : ByteArray := prog_1_method_22_code
def yX11_half : MethodName := ⟨RX11, "half", "(II)Z"⟩
abbrev cX11_way : ByteArray := prog_1_method_23_code
def yX11_way : MethodName := ⟨RX11, "way", "(II)I"⟩
abbrev cX11_walked : ByteArray := prog_1_method_24_code
def yX11_walked : MethodName := ⟨RX11, "walked", "(I)I"⟩
abbrev cX11_amiss : ByteArray := prog_1_method_25_code
def yX11_amiss : MethodName := ⟨RX11, "amiss", "(I)I"⟩
abbrev cX11_group : ByteArray := prog_1_method_26_code
def yX11_group : MethodName := ⟨RX11, "group", "(III)I"⟩
abbrev cX11_twins : ByteArray := prog_1_method_27_code
def yX11_twins : MethodName := ⟨RX11, "twins", "()Z"⟩
abbrev cX11_strange : ByteArray := prog_1_method_28_code
def yX11_strange : MethodName := ⟨RX11, "strange", "(I)Z"⟩
abbrev cX11_goes : ByteArray := prog_1_method_29_code
def yX11_goes : MethodName := ⟨RX11, "goes", "(III)Z"⟩
abbrev cX11_number : ByteArray := prog_1_method_30_code
def yX11_number : MethodName := ⟨RX11, "number", "(III)Z"⟩
abbrev cX11_bounds : ByteArray := prog_1_method_31_code
def yX11_bounds : MethodName := ⟨RX11, "bounds", "(IIIZ)Z"⟩
abbrev cX11_unlike : ByteArray := prog_1_method_32_code
def yX11_unlike : MethodName := ⟨RX11, "unlike", "(I)I"⟩
abbrev cX11_doubtful : ByteArray := prog_1_method_33_code
def yX11_doubtful : MethodName := ⟨RX11, "doubtful", "(II)I"⟩
abbrev cX11_flagged : ByteArray := prog_1_method_34_code
def yX11_flagged : MethodName := ⟨RX11, "flagged", "(I)I"⟩
abbrev cX11_hides : ByteArray := prog_1_method_35_code
def yX11_hides : MethodName := ⟨RX11, "hides", "(II)I"⟩
abbrev cX11_hidden : ByteArray := prog_1_method_36_code
def yX11_hidden : MethodName := ⟨RX11, "hidden", "(I)I"⟩
abbrev cX11_worth : ByteArray := prog_1_method_37_code
def yX11_worth : MethodName := ⟨RX11, "worth", "(III)I"⟩
abbrev cX11_deters : ByteArray := prog_1_method_38_code
def yX11_deters : MethodName := ⟨RX11, "deters", "(II)I"⟩
abbrev cX11_checked : ByteArray := prog_1_method_39_code
def yX11_checked : MethodName := ⟨RX11, "checked", "(II)I"⟩
abbrev cX11_found : ByteArray := prog_1_method_40_code
def yX11_found : MethodName := ⟨RX11, "found", "()I"⟩
abbrev cX11_world : ByteArray := prog_1_method_41_code
def yX11_world : MethodName := ⟨RX11, "world", "(III)I"⟩
abbrev cX11_score : ByteArray := prog_1_method_42_code
def yX11_score : MethodName := ⟨RX11, "score", "(II)I"⟩
abbrev cX11_mark : ByteArray := prog_1_method_43_code
def yX11_mark : MethodName := ⟨RX11, "mark", "()I"⟩
abbrev cX11_back : ByteArray := prog_1_method_44_code
def yX11_back : MethodName := ⟨RX11, "back", "()I"⟩
abbrev cX11_refuse : ByteArray := prog_1_method_45_code
def yX11_refuse : MethodName := ⟨RX11, "refuse", "(I)I"⟩
abbrev cX11_deny : ByteArray := prog_1_method_46_code
def yX11_deny : MethodName := ⟨RX11, "deny", "(I)Z"⟩
abbrev cX11_answer : ByteArray := prog_1_method_47_code
def yX11_answer : MethodName := ⟨RX11, "answer", "(I)I"⟩
abbrev cX11_agree : ByteArray := prog_1_method_48_code
def yX11_agree : MethodName := ⟨RX11, "agree", "()Z"⟩
abbrev cX11_tell : ByteArray := prog_1_method_49_code
def yX11_tell : MethodName := ⟨RX11, "tell", "(JJ)Z"⟩
abbrev cX11_whyNoPlace : ByteArray := prog_1_method_50_code
def yX11_whyNoPlace : MethodName := ⟨RX11, "whyNoPlace", "(II)I"⟩
abbrev cX11_isTray : ByteArray := prog_1_method_51_code
def yX11_isTray : MethodName := ⟨RX11, "isTray", "(I)Z"⟩
abbrev cX11_isQuestion : ByteArray := prog_1_method_52_code
def yX11_isQuestion : MethodName := ⟨RX11, "isQuestion", "(I)Z"⟩
abbrev cX11_isAnswer : ByteArray := prog_1_method_53_code
def yX11_isAnswer : MethodName := ⟨RX11, "isAnswer", "(II)Z"⟩
abbrev cX11_isDoor : ByteArray := prog_1_method_54_code
def yX11_isDoor : MethodName := ⟨RX11, "isDoor", "(I)Z"⟩
abbrev cX11_isSheet : ByteArray := prog_1_method_55_code
def yX11_isSheet : MethodName := ⟨RX11, "isSheet", "(I)Z"⟩
abbrev cX11_isRule : ByteArray := prog_1_method_56_code
def yX11_isRule : MethodName := ⟨RX11, "isRule", "(I)Z"⟩
abbrev cX11_isAsker : ByteArray := prog_1_method_57_code
def yX11_isAsker : MethodName := ⟨RX11, "isAsker", "(I)Z"⟩
abbrev cX11_within : ByteArray := prog_1_method_58_code
def yX11_within : MethodName := ⟨RX11, "within", "(JJJ)Z"⟩
abbrev cX11_commonDivisor : ByteArray := prog_1_method_59_code
def yX11_commonDivisor : MethodName := ⟨RX11, "commonDivisor", "(JJ)J"⟩
abbrev cX11_partMade : ByteArray := prog_1_method_60_code
def yX11_partMade : MethodName := ⟨RX11, "partMade", "(JJI)J"⟩
abbrev cX11_sumOfSquares : ByteArray := prog_1_method_61_code
def yX11_sumOfSquares : MethodName := ⟨RX11, "sumOfSquares", "(LKitchenSheets$Land;IIJ)J"⟩
abbrev cX11_sumBelow : ByteArray := prog_1_method_62_code
def yX11_sumBelow : MethodName := ⟨RX11, "sumBelow", "(LKitchenSheets$Land;IIJI)J"⟩
abbrev cX11_answerIn : ByteArray := prog_1_method_63_code
def yX11_answerIn : MethodName := ⟨RX11, "answerIn", "(II)I"⟩
abbrev cX11_withAnswer : ByteArray := prog_1_method_64_code
def yX11_withAnswer : MethodName := ⟨RX11, "withAnswer", "(III)I"⟩
abbrev cX11_unlikeAnswers : ByteArray := prog_1_method_65_code
def yX11_unlikeAnswers : MethodName := ⟨RX11, "unlikeAnswers", "(II)I"⟩
abbrev cX11_placeOf : ByteArray := prog_1_method_66_code
def yX11_placeOf : MethodName := ⟨RX11, "placeOf", "(III)I"⟩
def RX12 : String := "KitchenSheetsModel"
def TX12 : u_T := fun k => match k with
  | 0 => ("KitchenSheetsModel", "at", "[I", true)
  | 1 => ("KitchenSheetsModel", "status", "I", false)
  | 2 => ("KitchenSheetsModel", "top", "J", false)
  | 3 => ("KitchenSheetsModel", "bottom", "J", false)
  | 4 => ("KitchenSheetsModel", "sort", "[I", true)
  | 5 => ("KitchenSheetsModel", "trayMany", "[I", true)
  | 6 => ("KitchenSheetsModel", "trays", "[J", true)
  | 7 => ("KitchenSheetsModel", "tape", "[B", true)
  | 8 => ("KitchenSheetsModel", "text", "[B", true)
  | 9 => ("KitchenSheetsModel", "taped", "I", false)
  | 10 => ("KitchenSheetsModel", "size", "I", false)
  | 11 => ("KitchenSheetsModel", "token", "I", false)
  | 12 => ("KitchenSheetsModel", "from", "I", false)
  | 13 => ("KitchenSheetsModel", "end", "I", false)
  | 14 => ("KitchenSheetsModel", "value", "I", false)
  | 15 => ("KitchenSheetsModel", "faultKind", "I", false)
  | 16 => ("KitchenSheetsModel", "faultPlace", "I", false)
  | 17 => ("KitchenSheetsModel", "faults", "I", false)
  | 18 => ("KitchenSheetsModel", "told", "I", false)
  | 19 => ("KitchenSheetsModel", "names", "[J", true)
  | 20 => ("KitchenSheetsModel", "waits", "[I", true)
  | 21 => ("KitchenSheetsModel", "waitMany", "I", false)
  | 22 => ("KitchenSheetsModel", "depth", "I", false)
  | 23 => ("KitchenSheetsModel", "tests", "I", false)
  | 24 => ("KitchenSheetsModel", "signs", "I", false)
  | 25 => ("KitchenSheetsModel", "isDone", "Z", false)
  | 26 => ("KitchenSheetsModel", "oddsUp", "J", false)
  | 27 => ("KitchenSheetsModel", "oddsAll", "J", false)
  | 28 => ("KitchenSheetsModel", "order", "[I", true)
  | 29 => ("KitchenSheetsModel", "longest", "[I", true)
  | 30 => ("KitchenSheetsModel", "orderMany", "I", false)
  | 31 => ("KitchenSheetsModel", "row", "[I", true)
  | 32 => ("KitchenSheetsModel", "stack", "[Z", true)
  | 33 => ("KitchenSheetsModel", "was", "[I", true)
  | 34 => ("KitchenSheetsModel", "hidden", "[I", true)
  | 35 => ("KitchenSheetsModel", "hiddenMany", "I", false)
  | 36 => ("KitchenSheetsModel", "costs", "[I", true)
  | 37 => ("KitchenSheetsModel", "values", "[I", true)
  | 38 => ("KitchenSheetsModel", "foundSum", "I", false)
  | 39 => ("KitchenSheetsModel", "drawn", "I", false)
  | _ => ("KitchenSheetsModel", "marks", "I", false)
def tyX12 : Nat → FieldType := fun k => match k with
  | 0 => .array .int
  | 1 => .int
  | 2 => .long
  | 3 => .long
  | 4 => .array .int
  | 5 => .array .int
  | 6 => .array .long
  | 7 => .array .byte
  | 8 => .array .byte
  | 9 => .int
  | 10 => .int
  | 11 => .int
  | 12 => .int
  | 13 => .int
  | 14 => .int
  | 15 => .int
  | 16 => .int
  | 17 => .int
  | 18 => .int
  | 19 => .array .long
  | 20 => .array .int
  | 21 => .int
  | 22 => .int
  | 23 => .int
  | 24 => .int
  | 25 => .boolean
  | 26 => .long
  | 27 => .long
  | 28 => .array .int
  | 29 => .array .int
  | 30 => .int
  | 31 => .array .int
  | 32 => .array .boolean
  | 33 => .array .int
  | 34 => .array .int
  | 35 => .int
  | 36 => .array .int
  | 37 => .array .int
  | 38 => .int
  | 39 => .int
  | _ => .int
abbrev wsX120 : List Cond := u_ws RX12 TX12 41
theorem nmX12 : ∀ a, a < 41 → ∀ b, b < 41 → a ≠ b → (TX12 a).2.1 ≠ (TX12 b).2.1 := by decide +kernel
theorem tyX12_ok : ∀ k, k < 41 → parseFieldDescriptor (TX12 k).2.2.1 = some (tyX12 k) := by decide +kernel
abbrev cX12_init : ByteArray := prog_14_method_1_code
def yX12_init : MethodName := ⟨RX12, "<init>", "()V"⟩
abbrev cX12_plain : ByteArray := prog_14_method_2_code
def yX12_plain : MethodName := ⟨RX12, "plain", "(I)V"⟩
abbrev cX12_status : ByteArray := prog_14_method_3_code
def yX12_status : MethodName := ⟨RX12, "status", "()I"⟩
abbrev cX12_top : ByteArray := prog_14_method_4_code
def yX12_top : MethodName := ⟨RX12, "top", "()J"⟩
abbrev cX12_bottom : ByteArray := prog_14_method_5_code
def yX12_bottom : MethodName := ⟨RX12, "bottom", "()J"⟩
abbrev cX12_is : ByteArray := prog_14_method_6_code
def yX12_is : MethodName := ⟨RX12, "is", "(I)Z"⟩
abbrev cX12_refuse : ByteArray := prog_14_method_7_code
def yX12_refuse : MethodName := ⟨RX12, "refuse", "(I)I"⟩
abbrev cX12_gives : ByteArray := prog_14_method_8_code
def yX12_gives : MethodName := ⟨RX12, "gives", "(I)I"⟩
abbrev cX12_tells : ByteArray := prog_14_method_9_code
def yX12_tells : MethodName := ⟨RX12, "tells", "(JJ)Z"⟩
abbrev cX12_isTray : ByteArray := prog_14_method_10_code
def yX12_isTray : MethodName := ⟨RX12, "isTray", "(I)Z"⟩
abbrev cX12_cut : ByteArray := prog_14_method_11_code
def yX12_cut : MethodName := ⟨RX12, "cut", "(JI)J"⟩
abbrev cX12_tray : ByteArray := prog_14_method_12_code
def yX12_tray : MethodName := ⟨RX12, "tray", "(III)Z"⟩
abbrev cX12_wrongPlace : ByteArray := prog_14_method_13_code
def yX12_wrongPlace : MethodName := ⟨RX12, "wrongPlace", "(II)I"⟩
abbrev cX12_write : ByteArray := prog_14_method_14_code
def yX12_write : MethodName := ⟨RX12, "write", "(IIJ)Z"⟩
abbrev cX12_read : ByteArray := prog_14_method_15_code
def yX12_read : MethodName := ⟨RX12, "read", "(II)J"⟩
abbrev cX12_pour : ByteArray := prog_14_method_16_code
def yX12_pour : MethodName := ⟨RX12, "pour", "(IIIII)Z"⟩
abbrev cX12_feed : ByteArray := prog_14_method_17_code
def yX12_feed : MethodName := ⟨RX12, "feed", "(IIIII)I"⟩
abbrev cX12_four : ByteArray := prog_14_method_18_code
def yX12_four : MethodName := ⟨RX12, "four", "(I)V"⟩
abbrev cX12_byteAt : ByteArray := prog_14_method_19_code
def yX12_byteAt : MethodName := ⟨RX12, "byteAt", "(I)I"⟩
abbrev cX12_isSmall : ByteArray := prog_14_method_20_code
def yX12_isSmall : MethodName := ⟨RX12, "isSmall", "(I)Z"⟩
abbrev cX12_isDigit : ByteArray := prog_14_method_21_code
def yX12_isDigit : MethodName := ⟨RX12, "isDigit", "(I)Z"⟩
abbrev cX12_ahead : ByteArray := prog_14_method_22_code
def yX12_ahead : MethodName := ⟨RX12, "ahead", "()V"⟩
abbrev cX12_isSign : ByteArray := prog_14_method_23_code
def yX12_isSign : MethodName := ⟨RX12, "isSign", "(I)Z"⟩
abbrev cX12_inWords : ByteArray := prog_14_method_24_code
def yX12_inWords : MethodName := ⟨RX12, "inWords", "(Ljava/lang/String;)I"⟩
abbrev cX12_fails : ByteArray := prog_14_method_25_code
def yX12_fails : MethodName := ⟨RX12, "fails", "(I)Z"⟩
abbrev cX12_begins : ByteArray := prog_14_method_26_code
def yX12_begins : MethodName := ⟨RX12, "begins", "(I)V"⟩
abbrev cX12_closes : ByteArray := prog_14_method_27_code
def yX12_closes : MethodName := ⟨RX12, "closes", "()Z"⟩
abbrev cX12_passes : ByteArray := prog_14_method_28_code
def yX12_passes : MethodName := ⟨RX12, "passes", "(III)Z"⟩
abbrev cX12_fault : ByteArray := prog_14_method_29_code
def yX12_fault : MethodName := ⟨RX12, "fault", "(I)I"⟩
abbrev cX12_isName : ByteArray := prog_14_method_30_code
def yX12_isName : MethodName := ⟨RX12, "isName", "()Z"⟩
abbrev cX12_nameHere : ByteArray := prog_14_method_31_code
def yX12_nameHere : MethodName := ⟨RX12, "nameHere", "()J"⟩
abbrev cX12_findHere : ByteArray := prog_14_method_32_code
def yX12_findHere : MethodName := ⟨RX12, "findHere", "(I)I"⟩
abbrev cX12_rowAt : ByteArray := prog_14_method_33_code
def yX12_rowAt : MethodName := ⟨RX12, "rowAt", "(IIII)I"⟩
abbrev cX12_anAsk : ByteArray := prog_14_method_34_code
def yX12_anAsk : MethodName := ⟨RX12, "anAsk", "()Z"⟩
abbrev cX12_someWeights : ByteArray := prog_14_method_35_code
def yX12_someWeights : MethodName := ⟨RX12, "someWeights", "(I)Z"⟩
abbrev cX12_aDoor : ByteArray := prog_14_method_36_code
def yX12_aDoor : MethodName := ⟨RX12, "aDoor", "()Z"⟩
abbrev cX12_part : ByteArray := prog_14_method_37_code
def yX12_part : MethodName := ⟨RX12, "part", "()Z"⟩
abbrev cX12_land : ByteArray := prog_14_method_38_code
def yX12_land : MethodName := ⟨RX12, "land", "(I)I"⟩
abbrev cX12_puts : ByteArray := prog_14_method_39_code
def yX12_puts : MethodName := ⟨RX12, "puts", "(II)V"⟩
abbrev cX12_falls : ByteArray := prog_14_method_40_code
def yX12_falls : MethodName := ⟨RX12, "falls", "(I)V"⟩
abbrev cX12_begin : ByteArray := prog_14_method_41_code
def yX12_begin : MethodName := ⟨RX12, "begin", "()Z"⟩
abbrev cX12_joins : ByteArray := prog_14_method_42_code
def yX12_joins : MethodName := ⟨RX12, "joins", "()Z"⟩
abbrev cX12_flag : ByteArray := prog_14_method_43_code
def yX12_flag : MethodName := ⟨RX12, "flag", "()Z"⟩
abbrev cX12_rules : ByteArray := prog_14_method_44_code
def yX12_rules : MethodName := ⟨RX12, "rules", "(I)I"⟩
abbrev cX12_isQuestion : ByteArray := prog_14_method_45_code
def yX12_isQuestion : MethodName := ⟨RX12, "isQuestion", "(I)Z"⟩
abbrev cX12_isSheet : ByteArray := prog_14_method_46_code
def yX12_isSheet : MethodName := ⟨RX12, "isSheet", "(I)Z"⟩
abbrev cX12_isDoor : ByteArray := prog_14_method_47_code
def yX12_isDoor : MethodName := ⟨RX12, "isDoor", "(J)Z"⟩
abbrev cX12_isAsker : ByteArray := prog_14_method_48_code
def yX12_isAsker : MethodName := ⟨RX12, "isAsker", "(J)Z"⟩
abbrev cX12_isFrom : ByteArray := prog_14_method_49_code
def yX12_isFrom : MethodName := ⟨RX12, "isFrom", "(JJJ)Z"⟩
abbrev cX12_answersOf : ByteArray := prog_14_method_50_code
def yX12_answersOf : MethodName := ⟨RX12, "answersOf", "(I)I"⟩
abbrev cX12_ofSheet : ByteArray := prog_14_method_51_code
def yX12_ofSheet : MethodName := ⟨RX12, "ofSheet", "(II)I"⟩
abbrev cX12_told : ByteArray := prog_14_method_52_code
def yX12_told : MethodName := ⟨RX12, "told", "(I)I"⟩
abbrev cX12_question : ByteArray := prog_14_method_53_code
def yX12_question : MethodName := ⟨RX12, "question", "(II)I"⟩
abbrev cX12_weight : ByteArray := prog_14_method_54_code
def yX12_weight : MethodName := ⟨RX12, "weight", "(IZII)I"⟩
abbrev cX12_sheet : ByteArray := prog_14_method_55_code
def yX12_sheet : MethodName := ⟨RX12, "sheet", "(I)I"⟩
abbrev cX12_look : ByteArray := prog_14_method_56_code
def yX12_look : MethodName := ⟨RX12, "look", "(II)I"⟩
abbrev cX12_alter : ByteArray := prog_14_method_57_code
def yX12_alter : MethodName := ⟨RX12, "alter", "(III)Z"⟩
abbrev cX12_card : ByteArray := prog_14_method_58_code
def yX12_card : MethodName := ⟨RX12, "card", "(II)Z"⟩
abbrev cX12_weightOf : ByteArray := prog_14_method_59_code
def yX12_weightOf : MethodName := ⟨RX12, "weightOf", "(II[II)I"⟩
abbrev cX12_weighs : ByteArray := prog_14_method_60_code
def yX12_weighs : MethodName := ⟨RX12, "weighs", "([III)J"⟩
abbrev cX12_answersAt : ByteArray := prog_14_method_61_code
def yX12_answersAt : MethodName := ⟨RX12, "answersAt", "(I)I"⟩
abbrev cX12_sheetWeighs : ByteArray := prog_14_method_62_code
def yX12_sheetWeighs : MethodName := ⟨RX12, "sheetWeighs", "(IZ)J"⟩
abbrev cX12_sheetWeight : ByteArray := prog_14_method_63_code
def yX12_sheetWeight : MethodName := ⟨RX12, "sheetWeight", "(IZ)I"⟩
abbrev cX12_asksOdds : ByteArray := prog_14_method_64_code
def yX12_asksOdds : MethodName := ⟨RX12, "asksOdds", "(II)V"⟩
abbrev cX12_isShare : ByteArray := prog_14_method_65_code
def yX12_isShare : MethodName := ⟨RX12, "isShare", "(I)Z"⟩
abbrev cX12_odds : ByteArray := prog_14_method_66_code
def yX12_odds : MethodName := ⟨RX12, "odds", "(II)Z"⟩
abbrev cX12_half : ByteArray := prog_14_method_67_code
def yX12_half : MethodName := ⟨RX12, "half", "(II)Z"⟩
abbrev cX12_stepsOf : ByteArray := prog_14_method_68_code
def yX12_stepsOf : MethodName := ⟨RX12, "stepsOf", "(II)I"⟩
abbrev cX12_wayOf : ByteArray := prog_14_method_69_code
def yX12_wayOf : MethodName := ⟨RX12, "wayOf", "(II)I"⟩
abbrev cX12_way : ByteArray := prog_14_method_70_code
def yX12_way : MethodName := ⟨RX12, "way", "(II)I"⟩
abbrev cX12_orders : ByteArray := prog_14_method_71_code
def yX12_orders : MethodName := ⟨RX12, "orders", "(I)V"⟩
abbrev cX12_fits : ByteArray := prog_14_method_72_code
def yX12_fits : MethodName := ⟨RX12, "fits", "(II)Z"⟩
abbrev cX12_walked : ByteArray := prog_14_method_73_code
def yX12_walked : MethodName := ⟨RX12, "walked", "(I)I"⟩
abbrev cX12_amiss : ByteArray := prog_14_method_74_code
def yX12_amiss : MethodName := ⟨RX12, "amiss", "(I)I"⟩
abbrev cX12_differs : ByteArray := prog_14_method_75_code
def yX12_differs : MethodName := ⟨RX12, "differs", "(II)I"⟩
abbrev cX12_group : ByteArray := prog_14_method_76_code
def yX12_group : MethodName := ⟨RX12, "group", "(III)I"⟩
abbrev cX12_rowsMany : ByteArray := prog_14_method_77_code
def yX12_rowsMany : MethodName := ⟨RX12, "rowsMany", "()I"⟩
abbrev cX12_takesRow : ByteArray := prog_14_method_78_code
def yX12_takesRow : MethodName := ⟨RX12, "takesRow", "(I)V"⟩
abbrev cX12_whole : ByteArray := prog_14_method_79_code
def yX12_whole : MethodName := ⟨RX12, "whole", "(I)J"⟩
abbrev cX12_twins : ByteArray := prog_14_method_80_code
def yX12_twins : MethodName := ⟨RX12, "twins", "()Z"⟩
abbrev cX12_strange : ByteArray := prog_14_method_81_code
def yX12_strange : MethodName := ⟨RX12, "strange", "(I)Z"⟩
abbrev cX12_goes : ByteArray := prog_14_method_82_code
def yX12_goes : MethodName := ⟨RX12, "goes", "(III)Z"⟩
abbrev cX12_countOf : ByteArray := prog_14_method_83_code
def yX12_countOf : MethodName := ⟨RX12, "countOf", "(III)I"⟩
abbrev cX12_bits : ByteArray := prog_14_method_84_code
def yX12_bits : MethodName := ⟨RX12, "bits", "(I)I"⟩
abbrev cX12_all : ByteArray := prog_14_method_85_code
def yX12_all : MethodName := ⟨RX12, "all", "()I"⟩
abbrev cX12_isAnswer : ByteArray := prog_14_method_86_code
def yX12_isAnswer : MethodName := ⟨RX12, "isAnswer", "(II)Z"⟩
abbrev cX12_number : ByteArray := prog_14_method_87_code
def yX12_number : MethodName := ⟨RX12, "number", "(III)Z"⟩
abbrev cX12_bounds : ByteArray := prog_14_method_88_code
def yX12_bounds : MethodName := ⟨RX12, "bounds", "(IIIZ)Z"⟩
abbrev cX12_unlike : ByteArray := prog_14_method_89_code
def yX12_unlike : MethodName := ⟨RX12, "unlike", "(I)I"⟩
abbrev cX12_doubtful : ByteArray := prog_14_method_90_code
def yX12_doubtful : MethodName := ⟨RX12, "doubtful", "(II)I"⟩
abbrev cX12_isAmiss : ByteArray := prog_14_method_91_code
def yX12_isAmiss : MethodName := ⟨RX12, "isAmiss", "(I)Z"⟩
abbrev cX12_says : ByteArray := prog_14_method_92_code
def yX12_says : MethodName := ⟨RX12, "says", "(III)Z"⟩
abbrev cX12_flags : ByteArray := prog_14_method_93_code
def yX12_flags : MethodName := ⟨RX12, "flags", "(II)Z"⟩
abbrev cX12_isRule : ByteArray := prog_14_method_94_code
def yX12_isRule : MethodName := ⟨RX12, "isRule", "(I)Z"⟩
abbrev cX12_flagsAll : ByteArray := prog_14_method_95_code
def yX12_flagsAll : MethodName := ⟨RX12, "flagsAll", "(I)I"⟩
abbrev cX12_flagged : ByteArray := prog_14_method_96_code
def yX12_flagged : MethodName := ⟨RX12, "flagged", "(I)I"⟩
abbrev cX12_hides : ByteArray := prog_14_method_97_code
def yX12_hides : MethodName := ⟨RX12, "hides", "(II)I"⟩
abbrev cX12_hidden : ByteArray := prog_14_method_98_code
def yX12_hidden : MethodName := ⟨RX12, "hidden", "(I)I"⟩
abbrev cX12_worthOf : ByteArray := prog_14_method_99_code
def yX12_worthOf : MethodName := ⟨RX12, "worthOf", "(III)I"⟩
abbrev cX12_isMinute : ByteArray := prog_14_method_100_code
def yX12_isMinute : MethodName := ⟨RX12, "isMinute", "(II)Z"⟩
abbrev cX12_worth : ByteArray := prog_14_method_101_code
def yX12_worth : MethodName := ⟨RX12, "worth", "(III)I"⟩
abbrev cX12_deters : ByteArray := prog_14_method_102_code
def yX12_deters : MethodName := ⟨RX12, "deters", "(II)I"⟩
abbrev cX12_checked : ByteArray := prog_14_method_103_code
def yX12_checked : MethodName := ⟨RX12, "checked", "(II)I"⟩
abbrev cX12_found : ByteArray := prog_14_method_104_code
def yX12_found : MethodName := ⟨RX12, "found", "()I"⟩
abbrev cX12_draw : ByteArray := prog_14_method_105_code
def yX12_draw : MethodName := ⟨RX12, "draw", "(I)I"⟩
abbrev cX12_world : ByteArray := prog_14_method_106_code
def yX12_world : MethodName := ⟨RX12, "world", "(III)I"⟩
abbrev cX12_score : ByteArray := prog_14_method_107_code
def yX12_score : MethodName := ⟨RX12, "score", "(II)I"⟩
abbrev cX12_copies : ByteArray := prog_14_method_108_code
def yX12_copies : MethodName := ⟨RX12, "copies", "(II)V"⟩
abbrev cX12_mark : ByteArray := prog_14_method_109_code
def yX12_mark : MethodName := ⟨RX12, "mark", "()I"⟩
abbrev cX12_back : ByteArray := prog_14_method_110_code
def yX12_back : MethodName := ⟨RX12, "back", "()I"⟩
def RJ6 : String := "java/lang/Integer"
def TJ6 : u_T := fun k => match k with
  | _ => ("", "", "", false)
def tyJ6 : Nat → FieldType := fun k => match k with
  | _ => .int
abbrev wsJ60 : List Cond := u_ws RJ6 TJ6 0
theorem nmJ6 : ∀ a, a < 0 → ∀ b, b < 0 → a ≠ b → (TJ6 a).2.1 ≠ (TJ6 b).2.1 := by decide +kernel
theorem tyJ6_ok : ∀ k, k < 0 → parseFieldDescriptor (TJ6 k).2.2.1 = some (tyJ6 k) := by decide +kernel
abbrev cJ6_bitCount_0f7a4 : ByteArray := prog_15_method_49_code
def yJ6_bitCount_0f7a4 : MethodName := ⟨RJ6, "bitCount", "(I)I"⟩
def RJ9 : String := "java/lang/Math"
def TJ9 : u_T := fun k => match k with
  | _ => ("", "", "", false)
def tyJ9 : Nat → FieldType := fun k => match k with
  | _ => .int
abbrev wsJ90 : List Cond := u_ws RJ9 TJ9 0
theorem nmJ9 : ∀ a, a < 0 → ∀ b, b < 0 → a ≠ b → (TJ9 a).2.1 ≠ (TJ9 b).2.1 := by decide +kernel
theorem tyJ9_ok : ∀ k, k < 0 → parseFieldDescriptor (TJ9 k).2.2.1 = some (tyJ9 k) := by decide +kernel
abbrev cJ9_abs_0f7a4 : ByteArray := prog_16_method_59_code
def yJ9_abs_0f7a4 : MethodName := ⟨RJ9, "abs", "(I)I"⟩
abbrev cJ9_max_7cf53 : ByteArray := prog_16_method_65_code
def yJ9_max_7cf53 : MethodName := ⟨RJ9, "max", "(II)I"⟩
abbrev cJ9_min_7cf53 : ByteArray := prog_16_method_69_code
def yJ9_min_7cf53 : MethodName := ⟨RJ9, "min", "(II)I"⟩
def RJ0 : String := "java/lang/String"
def TJ0 : u_T := fun k => match k with
  | _ => ("", "", "", false)
def tyJ0 : Nat → FieldType := fun k => match k with
  | _ => .int
abbrev wsJ00 : List Cond := u_ws RJ0 TJ0 0
theorem nmJ0 : ∀ a, a < 0 → ∀ b, b < 0 → a ≠ b → (TJ0 a).2.1 ≠ (TJ0 b).2.1 := by decide +kernel
theorem tyJ0_ok : ∀ k, k < 0 → parseFieldDescriptor (TJ0 k).2.2.1 = some (tyJ0 k) := by decide +kernel
abbrev cJ0_length_8abf5 : ByteArray := prog_17_method_54_code
def yJ0_length_8abf5 : MethodName := ⟨RJ0, "length", "()I"⟩
abbrev cJ0_charAt_5068e : ByteArray := prog_17_method_56_code
def yJ0_charAt_5068e : MethodName := ⟨RJ0, "charAt", "(I)C"⟩
abbrev cJ0_coder_7d493 : ByteArray := prog_17_method_152_code
def yJ0_coder_7d493 : MethodName := ⟨RJ0, "coder", "()B"⟩
abbrev cJ0_isLatin1_aae02 : ByteArray := prog_17_method_154_code
def yJ0_isLatin1_aae02 : MethodName := ⟨RJ0, "isLatin1", "()Z"⟩
abbrev cJ0_checkIndex_df160 : ByteArray := prog_17_method_155_code
def yJ0_checkIndex_df160 : MethodName := ⟨RJ0, "checkIndex", "(II)V"⟩
def RJ1 : String := "java/lang/StringLatin1"
def TJ1 : u_T := fun k => match k with
  | _ => ("", "", "", false)
def tyJ1 : Nat → FieldType := fun k => match k with
  | _ => .int
abbrev wsJ10 : List Cond := u_ws RJ1 TJ1 0
theorem nmJ1 : ∀ a, a < 0 → ∀ b, b < 0 → a ≠ b → (TJ1 a).2.1 ≠ (TJ1 b).2.1 := by decide +kernel
theorem tyJ1_ok : ∀ k, k < 0 → parseFieldDescriptor (TJ1 k).2.2.1 = some (tyJ1 k) := by decide +kernel
abbrev cJ1_charAt_3b067 : ByteArray := prog_18_method_2_code
def yJ1_charAt_3b067 : MethodName := ⟨RJ1, "charAt", "([BI)C"⟩
def RJ2 : String := "java/lang/StringUTF16"
def TJ2 : u_T := fun k => match k with
  | _ => ("", "", "", false)
def tyJ2 : Nat → FieldType := fun k => match k with
  | _ => .int
abbrev wsJ20 : List Cond := u_ws RJ2 TJ2 0
theorem nmJ2 : ∀ a, a < 0 → ∀ b, b < 0 → a ≠ b → (TJ2 a).2.1 ≠ (TJ2 b).2.1 := by decide +kernel
theorem tyJ2_ok : ∀ k, k < 0 → parseFieldDescriptor (TJ2 k).2.2.1 = some (tyJ2 k) := by decide +kernel
abbrev cJ2_getChar_3b067 : ByteArray := prog_19_method_5_code
def yJ2_getChar_3b067 : MethodName := ⟨RJ2, "getChar", "([BI)C"⟩
abbrev cJ2_length_9d52b : ByteArray := prog_19_method_6_code
def yJ2_length_9d52b : MethodName := ⟨RJ2, "length", "([B)I"⟩
abbrev cJ2_charAt_3b067 : ByteArray := prog_19_method_83_code
def yJ2_charAt_3b067 : MethodName := ⟨RJ2, "charAt", "([BI)C"⟩
abbrev cJ2_checkIndex_2214a : ByteArray := prog_19_method_91_code
def yJ2_checkIndex_2214a : MethodName := ⟨RJ2, "checkIndex", "(I[B)V"⟩
def RJ10 : String := "java/lang/System"
def TJ10 : u_T := fun k => match k with
  | _ => ("", "", "", false)
def tyJ10 : Nat → FieldType := fun k => match k with
  | _ => .int
abbrev wsJ100 : List Cond := u_ws RJ10 TJ10 0
theorem nmJ10 : ∀ a, a < 0 → ∀ b, b < 0 → a ≠ b → (TJ10 a).2.1 ≠ (TJ10 b).2.1 := by decide +kernel
theorem tyJ10_ok : ∀ k, k < 0 → parseFieldDescriptor (TJ10 k).2.2.1 = some (tyJ10 k) := by decide +kernel
def RJ3 : String := "jdk/internal/util/Preconditions"
def TJ3 : u_T := fun k => match k with
  | _ => ("", "", "", false)
def tyJ3 : Nat → FieldType := fun k => match k with
  | _ => .int
abbrev wsJ30 : List Cond := u_ws RJ3 TJ3 0
theorem nmJ3 : ∀ a, a < 0 → ∀ b, b < 0 → a ≠ b → (TJ3 a).2.1 ≠ (TJ3 b).2.1 := by decide +kernel
theorem tyJ3_ok : ∀ k, k < 0 → parseFieldDescriptor (TJ3 k).2.2.1 = some (tyJ3 k) := by decide +kernel
abbrev cJ3_checkIndex_8e157 : ByteArray := prog_21_method_11_code
def yJ3_checkIndex_8e157 : MethodName := ⟨RJ3, "checkIndex", "(IILjava/util/function/BiFunction;)I"⟩
def RL : String := "KitchenSheetsLaw"
abbrev cL_law : ByteArray := code
def yL_law : MethodName := ⟨RL, "law", "([I)Z"⟩
