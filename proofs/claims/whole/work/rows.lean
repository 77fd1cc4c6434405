section
-- ===== PART A: goes FIRST, ahead of the names: the tables' words, and 'selects' of the private methods out of them =====
/-- a private method of a class that the tables say can be made, by its rows of tables_1 -/
def lw_okq (q : MethodName × Nat) : Prop := (q.1.cls ≠ "java/lang/invoke/MethodHandle" ∧ q.1.cls ≠ "java/lang/invoke/VarHandle") ∧ Cond.instantiable q.1.cls q.2 ∈ tables_1 ∧ Cond.privateMethod q.1 ∈ tables_1 ∧ Cond.instanceMethod q.1 ∈ tables_1
theorem lw_p0 : lw_okq (⟨"CustomsDesk", "keepForUndo", "()V"⟩, 10) := ⟨⟨by decide +kernel, by decide +kernel⟩, List.mem_of_getElem? (i := 24) (by decide +kernel), List.mem_of_getElem? (i := 234) (by decide +kernel), List.mem_of_getElem? (i := 235) (by decide +kernel)⟩
theorem lw_p1 : lw_okq (⟨"CustomsDesk", "keepIn", "(I)V"⟩, 10) := ⟨⟨by decide +kernel, by decide +kernel⟩, List.mem_of_getElem? (i := 24) (by decide +kernel), List.mem_of_getElem? (i := 238) (by decide +kernel), List.mem_of_getElem? (i := 239) (by decide +kernel)⟩
theorem lw_p2 : lw_okq (⟨"CustomsDesk$Table", "hasSlot", "(I)Z"⟩, 4) := ⟨⟨by decide +kernel, by decide +kernel⟩, List.mem_of_getElem? (i := 44) (by decide +kernel), List.mem_of_getElem? (i := 254) (by decide +kernel), List.mem_of_getElem? (i := 255) (by decide +kernel)⟩
theorem lw_p3 : lw_okq (⟨"CustomsDesk$Table", "setCount", "(I)V"⟩, 4) := ⟨⟨by decide +kernel, by decide +kernel⟩, List.mem_of_getElem? (i := 44) (by decide +kernel), List.mem_of_getElem? (i := 279) (by decide +kernel), List.mem_of_getElem? (i := 280) (by decide +kernel)⟩
theorem lw_p4 : lw_okq (⟨"java/lang/Throwable", "fillInStackTrace", "(I)Ljava/lang/Throwable;"⟩, 6) := ⟨⟨by decide +kernel, by decide +kernel⟩, List.mem_of_getElem? (i := 328) (by decide +kernel), List.mem_of_getElem? (i := 326) (by decide +kernel), List.mem_of_getElem? (i := 327) (by decide +kernel)⟩
theorem lw_p5 : lw_okq (⟨"CustomsDesk", "requireHeading", "(I)V"⟩, 10) := ⟨⟨by decide +kernel, by decide +kernel⟩, List.mem_of_getElem? (i := 24) (by decide +kernel), List.mem_of_getElem? (i := 463) (by decide +kernel), List.mem_of_getElem? (i := 464) (by decide +kernel)⟩
theorem lw_p6 : lw_okq (⟨"CustomsDesk", "requireCountry", "(I)V"⟩, 10) := ⟨⟨by decide +kernel, by decide +kernel⟩, List.mem_of_getElem? (i := 24) (by decide +kernel), List.mem_of_getElem? (i := 526) (by decide +kernel), List.mem_of_getElem? (i := 527) (by decide +kernel)⟩
theorem lw_p7 : lw_okq (⟨"CustomsDesk", "requireQuota", "(I)V"⟩, 10) := ⟨⟨by decide +kernel, by decide +kernel⟩, List.mem_of_getElem? (i := 24) (by decide +kernel), List.mem_of_getElem? (i := 579) (by decide +kernel), List.mem_of_getElem? (i := 580) (by decide +kernel)⟩
theorem lw_p8 : lw_okq (⟨"CustomsDesk", "goodsNow", "(IIII)LCustomsDesk$Goods;"⟩, 10) := ⟨⟨by decide +kernel, by decide +kernel⟩, List.mem_of_getElem? (i := 24) (by decide +kernel), List.mem_of_getElem? (i := 608) (by decide +kernel), List.mem_of_getElem? (i := 609) (by decide +kernel)⟩
theorem lw_p9 : lw_okq (⟨"CustomsDesk$Tariff", "isSuspended", "(LCustomsDesk$Goods;)Z"⟩, 4) := ⟨⟨by decide +kernel, by decide +kernel⟩, List.mem_of_getElem? (i := 38) (by decide +kernel), List.mem_of_getElem? (i := 621) (by decide +kernel), List.mem_of_getElem? (i := 622) (by decide +kernel)⟩
theorem lw_p10 : lw_okq (⟨"CustomsDesk$Tariff", "preferredRate", "(LCustomsDesk$Goods;)I"⟩, 4) := ⟨⟨by decide +kernel, by decide +kernel⟩, List.mem_of_getElem? (i := 38) (by decide +kernel), List.mem_of_getElem? (i := 631) (by decide +kernel), List.mem_of_getElem? (i := 632) (by decide +kernel)⟩
theorem lw_p11 : lw_okq (⟨"CustomsDesk$Tariff", "meetsNeed", "(ILCustomsDesk$Goods;)Z"⟩, 4) := ⟨⟨by decide +kernel, by decide +kernel⟩, List.mem_of_getElem? (i := 38) (by decide +kernel), List.mem_of_getElem? (i := 635) (by decide +kernel), List.mem_of_getElem? (i := 636) (by decide +kernel)⟩
theorem lw_p12 : lw_okq (⟨"CustomsDesk", "requireDeclaration", "(I)V"⟩, 10) := ⟨⟨by decide +kernel, by decide +kernel⟩, List.mem_of_getElem? (i := 24) (by decide +kernel), List.mem_of_getElem? (i := 727) (by decide +kernel), List.mem_of_getElem? (i := 728) (by decide +kernel)⟩
theorem lw_p13 : lw_okq (⟨"CustomsDesk$Office", "loadGoods", "(I)V"⟩, 5) := ⟨⟨by decide +kernel, by decide +kernel⟩, List.mem_of_getElem? (i := 32) (by decide +kernel), List.mem_of_getElem? (i := 750) (by decide +kernel), List.mem_of_getElem? (i := 751) (by decide +kernel)⟩
theorem lw_p14 : lw_okq (⟨"CustomsDesk$Office", "isClaimOn", "(II)Z"⟩, 5) := ⟨⟨by decide +kernel, by decide +kernel⟩, List.mem_of_getElem? (i := 32) (by decide +kernel), List.mem_of_getElem? (i := 770) (by decide +kernel), List.mem_of_getElem? (i := 771) (by decide +kernel)⟩
theorem lw_p15 : lw_okq (⟨"CustomsDesk$Office", "isGoodClaimOn", "(II)Z"⟩, 5) := ⟨⟨by decide +kernel, by decide +kernel⟩, List.mem_of_getElem? (i := 32) (by decide +kernel), List.mem_of_getElem? (i := 790) (by decide +kernel), List.mem_of_getElem? (i := 791) (by decide +kernel)⟩
def lw_privs_1 : List (MethodName × Nat) := [(⟨"CustomsDesk", "keepForUndo", "()V"⟩, 10), (⟨"CustomsDesk", "keepIn", "(I)V"⟩, 10), (⟨"CustomsDesk$Table", "hasSlot", "(I)Z"⟩, 4), (⟨"CustomsDesk$Table", "setCount", "(I)V"⟩, 4), (⟨"java/lang/Throwable", "fillInStackTrace", "(I)Ljava/lang/Throwable;"⟩, 6), (⟨"CustomsDesk", "requireHeading", "(I)V"⟩, 10), (⟨"CustomsDesk", "requireCountry", "(I)V"⟩, 10), (⟨"CustomsDesk", "requireQuota", "(I)V"⟩, 10), (⟨"CustomsDesk", "goodsNow", "(IIII)LCustomsDesk$Goods;"⟩, 10), (⟨"CustomsDesk$Tariff", "isSuspended", "(LCustomsDesk$Goods;)Z"⟩, 4), (⟨"CustomsDesk$Tariff", "preferredRate", "(LCustomsDesk$Goods;)I"⟩, 4), (⟨"CustomsDesk$Tariff", "meetsNeed", "(ILCustomsDesk$Goods;)Z"⟩, 4), (⟨"CustomsDesk", "requireDeclaration", "(I)V"⟩, 10), (⟨"CustomsDesk$Office", "loadGoods", "(I)V"⟩, 5), (⟨"CustomsDesk$Office", "isClaimOn", "(II)Z"⟩, 5), (⟨"CustomsDesk$Office", "isGoodClaimOn", "(II)Z"⟩, 5)]
theorem lw_r1 : ∀ q ∈ lw_privs_1, lw_okq q := List.forall_mem_cons.mpr ⟨lw_p0, List.forall_mem_cons.mpr ⟨lw_p1, List.forall_mem_cons.mpr ⟨lw_p2, List.forall_mem_cons.mpr ⟨lw_p3, List.forall_mem_cons.mpr ⟨lw_p4, List.forall_mem_cons.mpr ⟨lw_p5, List.forall_mem_cons.mpr ⟨lw_p6, List.forall_mem_cons.mpr ⟨lw_p7, List.forall_mem_cons.mpr ⟨lw_p8, List.forall_mem_cons.mpr ⟨lw_p9, List.forall_mem_cons.mpr ⟨lw_p10, List.forall_mem_cons.mpr ⟨lw_p11, List.forall_mem_cons.mpr ⟨lw_p12, List.forall_mem_cons.mpr ⟨lw_p13, List.forall_mem_cons.mpr ⟨lw_p14, List.forall_mem_cons.mpr ⟨lw_p15, fun _ h => absurd h List.not_mem_nil⟩⟩⟩⟩⟩⟩⟩⟩⟩⟩⟩⟩⟩⟩⟩⟩
theorem lw_p16 : lw_okq (⟨"CustomsDesk$Office", "giveSpareUnits", "(II)V"⟩, 5) := ⟨⟨by decide +kernel, by decide +kernel⟩, List.mem_of_getElem? (i := 32) (by decide +kernel), List.mem_of_getElem? (i := 797) (by decide +kernel), List.mem_of_getElem? (i := 798) (by decide +kernel)⟩
theorem lw_p17 : lw_okq (⟨"CustomsDesk$Office", "assess", "(I)V"⟩, 5) := ⟨⟨by decide +kernel, by decide +kernel⟩, List.mem_of_getElem? (i := 32) (by decide +kernel), List.mem_of_getElem? (i := 809) (by decide +kernel), List.mem_of_getElem? (i := 810) (by decide +kernel)⟩
theorem lw_p18 : lw_okq (⟨"CustomsDesk$Office", "valueInQuota", "(I)I"⟩, 5) := ⟨⟨by decide +kernel, by decide +kernel⟩, List.mem_of_getElem? (i := 32) (by decide +kernel), List.mem_of_getElem? (i := 813) (by decide +kernel), List.mem_of_getElem? (i := 814) (by decide +kernel)⟩
theorem lw_p19 : lw_okq (⟨"CustomsDesk$Office", "secondPart", "(II)I"⟩, 5) := ⟨⟨by decide +kernel, by decide +kernel⟩, List.mem_of_getElem? (i := 32) (by decide +kernel), List.mem_of_getElem? (i := 817) (by decide +kernel), List.mem_of_getElem? (i := 818) (by decide +kernel)⟩
theorem lw_p20 : lw_okq (⟨"CustomsDesk", "requireNoRefusal", "(I)V"⟩, 10) := ⟨⟨by decide +kernel, by decide +kernel⟩, List.mem_of_getElem? (i := 24) (by decide +kernel), List.mem_of_getElem? (i := 835) (by decide +kernel), List.mem_of_getElem? (i := 836) (by decide +kernel)⟩
theorem lw_p21 : lw_okq (⟨"CustomsDesk$Office", "giveBack", "(II)V"⟩, 5) := ⟨⟨by decide +kernel, by decide +kernel⟩, List.mem_of_getElem? (i := 32) (by decide +kernel), List.mem_of_getElem? (i := 867) (by decide +kernel), List.mem_of_getElem? (i := 868) (by decide +kernel)⟩
theorem lw_p22 : lw_okq (⟨"CustomsDesk$Office", "returnUnits", "(I)V"⟩, 5) := ⟨⟨by decide +kernel, by decide +kernel⟩, List.mem_of_getElem? (i := 32) (by decide +kernel), List.mem_of_getElem? (i := 875) (by decide +kernel), List.mem_of_getElem? (i := 876) (by decide +kernel)⟩
theorem lw_p23 : lw_okq (⟨"CustomsDesk$Text", "readEntry", "()Z"⟩, 5) := ⟨⟨by decide +kernel, by decide +kernel⟩, List.mem_of_getElem? (i := 171) (by decide +kernel), List.mem_of_getElem? (i := 1003) (by decide +kernel), List.mem_of_getElem? (i := 1004) (by decide +kernel)⟩
theorem lw_p24 : lw_okq (⟨"CustomsDesk$Text", "readNumber", "(IIII)Z"⟩, 5) := ⟨⟨by decide +kernel, by decide +kernel⟩, List.mem_of_getElem? (i := 171) (by decide +kernel), List.mem_of_getElem? (i := 1009) (by decide +kernel), List.mem_of_getElem? (i := 1010) (by decide +kernel)⟩
theorem lw_p25 : lw_okq (⟨"CustomsDesk$Text", "digitHere", "()I"⟩, 5) := ⟨⟨by decide +kernel, by decide +kernel⟩, List.mem_of_getElem? (i := 171) (by decide +kernel), List.mem_of_getElem? (i := 1013) (by decide +kernel), List.mem_of_getElem? (i := 1014) (by decide +kernel)⟩
theorem lw_p26 : lw_okq (⟨"CustomsDesk$Text", "isInText", "()Z"⟩, 5) := ⟨⟨by decide +kernel, by decide +kernel⟩, List.mem_of_getElem? (i := 171) (by decide +kernel), List.mem_of_getElem? (i := 1017) (by decide +kernel), List.mem_of_getElem? (i := 1018) (by decide +kernel)⟩
theorem lw_p27 : lw_okq (⟨"CustomsDesk$Text", "take", "(C)Z"⟩, 5) := ⟨⟨by decide +kernel, by decide +kernel⟩, List.mem_of_getElem? (i := 171) (by decide +kernel), List.mem_of_getElem? (i := 1021) (by decide +kernel), List.mem_of_getElem? (i := 1022) (by decide +kernel)⟩
theorem lw_p28 : lw_okq (⟨"CustomsDesk$Text", "readParts", "(I)Z"⟩, 5) := ⟨⟨by decide +kernel, by decide +kernel⟩, List.mem_of_getElem? (i := 171) (by decide +kernel), List.mem_of_getElem? (i := 1025) (by decide +kernel), List.mem_of_getElem? (i := 1026) (by decide +kernel)⟩
theorem lw_p29 : lw_okq (⟨"CustomsDesk$Text", "readDigit", "(II)Z"⟩, 5) := ⟨⟨by decide +kernel, by decide +kernel⟩, List.mem_of_getElem? (i := 171) (by decide +kernel), List.mem_of_getElem? (i := 1032) (by decide +kernel), List.mem_of_getElem? (i := 1033) (by decide +kernel)⟩
theorem lw_p30 : lw_okq (⟨"CustomsDesk$Text", "readChoice", "(ICI)Z"⟩, 5) := ⟨⟨by decide +kernel, by decide +kernel⟩, List.mem_of_getElem? (i := 171) (by decide +kernel), List.mem_of_getElem? (i := 1036) (by decide +kernel), List.mem_of_getElem? (i := 1037) (by decide +kernel)⟩
theorem lw_p31 : lw_okq (⟨"CustomsDesk", "areCodesKnown", "()Z"⟩, 10) := ⟨⟨by decide +kernel, by decide +kernel⟩, List.mem_of_getElem? (i := 24) (by decide +kernel), List.mem_of_getElem? (i := 1041) (by decide +kernel), List.mem_of_getElem? (i := 1042) (by decide +kernel)⟩
def lw_privs_2 : List (MethodName × Nat) := [(⟨"CustomsDesk$Office", "giveSpareUnits", "(II)V"⟩, 5), (⟨"CustomsDesk$Office", "assess", "(I)V"⟩, 5), (⟨"CustomsDesk$Office", "valueInQuota", "(I)I"⟩, 5), (⟨"CustomsDesk$Office", "secondPart", "(II)I"⟩, 5), (⟨"CustomsDesk", "requireNoRefusal", "(I)V"⟩, 10), (⟨"CustomsDesk$Office", "giveBack", "(II)V"⟩, 5), (⟨"CustomsDesk$Office", "returnUnits", "(I)V"⟩, 5), (⟨"CustomsDesk$Text", "readEntry", "()Z"⟩, 5), (⟨"CustomsDesk$Text", "readNumber", "(IIII)Z"⟩, 5), (⟨"CustomsDesk$Text", "digitHere", "()I"⟩, 5), (⟨"CustomsDesk$Text", "isInText", "()Z"⟩, 5), (⟨"CustomsDesk$Text", "take", "(C)Z"⟩, 5), (⟨"CustomsDesk$Text", "readParts", "(I)Z"⟩, 5), (⟨"CustomsDesk$Text", "readDigit", "(II)Z"⟩, 5), (⟨"CustomsDesk$Text", "readChoice", "(ICI)Z"⟩, 5), (⟨"CustomsDesk", "areCodesKnown", "()Z"⟩, 10)]
theorem lw_r2 : ∀ q ∈ lw_privs_2, lw_okq q := List.forall_mem_cons.mpr ⟨lw_p16, List.forall_mem_cons.mpr ⟨lw_p17, List.forall_mem_cons.mpr ⟨lw_p18, List.forall_mem_cons.mpr ⟨lw_p19, List.forall_mem_cons.mpr ⟨lw_p20, List.forall_mem_cons.mpr ⟨lw_p21, List.forall_mem_cons.mpr ⟨lw_p22, List.forall_mem_cons.mpr ⟨lw_p23, List.forall_mem_cons.mpr ⟨lw_p24, List.forall_mem_cons.mpr ⟨lw_p25, List.forall_mem_cons.mpr ⟨lw_p26, List.forall_mem_cons.mpr ⟨lw_p27, List.forall_mem_cons.mpr ⟨lw_p28, List.forall_mem_cons.mpr ⟨lw_p29, List.forall_mem_cons.mpr ⟨lw_p30, List.forall_mem_cons.mpr ⟨lw_p31, fun _ h => absurd h List.not_mem_nil⟩⟩⟩⟩⟩⟩⟩⟩⟩⟩⟩⟩⟩⟩⟩⟩
theorem lw_p32 : lw_okq (⟨"CustomsDesk", "canDeclareEntries", "()Z"⟩, 10) := ⟨⟨by decide +kernel, by decide +kernel⟩, List.mem_of_getElem? (i := 24) (by decide +kernel), List.mem_of_getElem? (i := 1046) (by decide +kernel), List.mem_of_getElem? (i := 1047) (by decide +kernel)⟩
theorem lw_p33 : lw_okq (⟨"CustomsDesk", "canDeclareEntry", "(I)Z"⟩, 10) := ⟨⟨by decide +kernel, by decide +kernel⟩, List.mem_of_getElem? (i := 24) (by decide +kernel), List.mem_of_getElem? (i := 1050) (by decide +kernel), List.mem_of_getElem? (i := 1051) (by decide +kernel)⟩
theorem lw_p34 : lw_okq (⟨"CustomsDesk", "areEntryPartsInRange", "(I)Z"⟩, 10) := ⟨⟨by decide +kernel, by decide +kernel⟩, List.mem_of_getElem? (i := 24) (by decide +kernel), List.mem_of_getElem? (i := 1054) (by decide +kernel), List.mem_of_getElem? (i := 1055) (by decide +kernel)⟩
theorem lw_p35 : lw_okq (⟨"CustomsDesk", "declareEntry", "(I)V"⟩, 10) := ⟨⟨by decide +kernel, by decide +kernel⟩, List.mem_of_getElem? (i := 24) (by decide +kernel), List.mem_of_getElem? (i := 1064) (by decide +kernel), List.mem_of_getElem? (i := 1065) (by decide +kernel)⟩
theorem lw_p36 : lw_okq (⟨"CustomsDesk", "bringFrom", "(I)V"⟩, 10) := ⟨⟨by decide +kernel, by decide +kernel⟩, List.mem_of_getElem? (i := 24) (by decide +kernel), List.mem_of_getElem? (i := 1084) (by decide +kernel), List.mem_of_getElem? (i := 1085) (by decide +kernel)⟩
theorem lw_p37 : lw_okq (⟨"CustomsDeskModel", "isHead", "(I)Z"⟩, 16) := ⟨⟨by decide +kernel, by decide +kernel⟩, List.mem_of_getElem? (i := 1115) (by decide +kernel), List.mem_of_getElem? (i := 1178) (by decide +kernel), List.mem_of_getElem? (i := 1179) (by decide +kernel)⟩
theorem lw_p38 : lw_okq (⟨"CustomsDeskModel", "fails", "(I)I"⟩, 16) := ⟨⟨by decide +kernel, by decide +kernel⟩, List.mem_of_getElem? (i := 1115) (by decide +kernel), List.mem_of_getElem? (i := 1185) (by decide +kernel), List.mem_of_getElem? (i := 1186) (by decide +kernel)⟩
theorem lw_p39 : lw_okq (⟨"CustomsDeskModel", "headAt", "(II)I"⟩, 16) := ⟨⟨by decide +kernel, by decide +kernel⟩, List.mem_of_getElem? (i := 1115) (by decide +kernel), List.mem_of_getElem? (i := 1189) (by decide +kernel), List.mem_of_getElem? (i := 1190) (by decide +kernel)⟩
theorem lw_p40 : lw_okq (⟨"CustomsDeskModel", "lengthOf", "(I)I"⟩, 16) := ⟨⟨by decide +kernel, by decide +kernel⟩, List.mem_of_getElem? (i := 1115) (by decide +kernel), List.mem_of_getElem? (i := 1193) (by decide +kernel), List.mem_of_getElem? (i := 1194) (by decide +kernel)⟩
theorem lw_p41 : lw_okq (⟨"CustomsDeskModel", "remembers", "()V"⟩, 16) := ⟨⟨by decide +kernel, by decide +kernel⟩, List.mem_of_getElem? (i := 1115) (by decide +kernel), List.mem_of_getElem? (i := 1197) (by decide +kernel), List.mem_of_getElem? (i := 1198) (by decide +kernel)⟩
theorem lw_p42 : lw_okq (⟨"CustomsDeskModel", "remembersRow", "([I)V"⟩, 16) := ⟨⟨by decide +kernel, by decide +kernel⟩, List.mem_of_getElem? (i := 1115) (by decide +kernel), List.mem_of_getElem? (i := 1201) (by decide +kernel), List.mem_of_getElem? (i := 1202) (by decide +kernel)⟩
theorem lw_p43 : lw_okq (⟨"CustomsDeskModel", "done", "(I)I"⟩, 16) := ⟨⟨by decide +kernel, by decide +kernel⟩, List.mem_of_getElem? (i := 1115) (by decide +kernel), List.mem_of_getElem? (i := 1208) (by decide +kernel), List.mem_of_getElem? (i := 1209) (by decide +kernel)⟩
theorem lw_p44 : lw_okq (⟨"CustomsDeskModel", "rateAt", "(I)I"⟩, 16) := ⟨⟨by decide +kernel, by decide +kernel⟩, List.mem_of_getElem? (i := 1115) (by decide +kernel), List.mem_of_getElem? (i := 1220) (by decide +kernel), List.mem_of_getElem? (i := 1221) (by decide +kernel)⟩
theorem lw_p45 : lw_okq (⟨"CustomsDeskModel", "children", "(I)I"⟩, 16) := ⟨⟨by decide +kernel, by decide +kernel⟩, List.mem_of_getElem? (i := 1115) (by decide +kernel), List.mem_of_getElem? (i := 1224) (by decide +kernel), List.mem_of_getElem? (i := 1225) (by decide +kernel)⟩
theorem lw_p46 : lw_okq (⟨"CustomsDeskModel", "codeOf", "(I)I"⟩, 16) := ⟨⟨by decide +kernel, by decide +kernel⟩, List.mem_of_getElem? (i := 1115) (by decide +kernel), List.mem_of_getElem? (i := 1228) (by decide +kernel), List.mem_of_getElem? (i := 1229) (by decide +kernel)⟩
theorem lw_p47 : lw_okq (⟨"CustomsDeskModel", "coded", "(I)I"⟩, 16) := ⟨⟨by decide +kernel, by decide +kernel⟩, List.mem_of_getElem? (i := 1115) (by decide +kernel), List.mem_of_getElem? (i := 1236) (by decide +kernel), List.mem_of_getElem? (i := 1237) (by decide +kernel)⟩
def lw_privs_3 : List (MethodName × Nat) := [(⟨"CustomsDesk", "canDeclareEntries", "()Z"⟩, 10), (⟨"CustomsDesk", "canDeclareEntry", "(I)Z"⟩, 10), (⟨"CustomsDesk", "areEntryPartsInRange", "(I)Z"⟩, 10), (⟨"CustomsDesk", "declareEntry", "(I)V"⟩, 10), (⟨"CustomsDesk", "bringFrom", "(I)V"⟩, 10), (⟨"CustomsDeskModel", "isHead", "(I)Z"⟩, 16), (⟨"CustomsDeskModel", "fails", "(I)I"⟩, 16), (⟨"CustomsDeskModel", "headAt", "(II)I"⟩, 16), (⟨"CustomsDeskModel", "lengthOf", "(I)I"⟩, 16), (⟨"CustomsDeskModel", "remembers", "()V"⟩, 16), (⟨"CustomsDeskModel", "remembersRow", "([I)V"⟩, 16), (⟨"CustomsDeskModel", "done", "(I)I"⟩, 16), (⟨"CustomsDeskModel", "rateAt", "(I)I"⟩, 16), (⟨"CustomsDeskModel", "children", "(I)I"⟩, 16), (⟨"CustomsDeskModel", "codeOf", "(I)I"⟩, 16), (⟨"CustomsDeskModel", "coded", "(I)I"⟩, 16)]
theorem lw_r3 : ∀ q ∈ lw_privs_3, lw_okq q := List.forall_mem_cons.mpr ⟨lw_p32, List.forall_mem_cons.mpr ⟨lw_p33, List.forall_mem_cons.mpr ⟨lw_p34, List.forall_mem_cons.mpr ⟨lw_p35, List.forall_mem_cons.mpr ⟨lw_p36, List.forall_mem_cons.mpr ⟨lw_p37, List.forall_mem_cons.mpr ⟨lw_p38, List.forall_mem_cons.mpr ⟨lw_p39, List.forall_mem_cons.mpr ⟨lw_p40, List.forall_mem_cons.mpr ⟨lw_p41, List.forall_mem_cons.mpr ⟨lw_p42, List.forall_mem_cons.mpr ⟨lw_p43, List.forall_mem_cons.mpr ⟨lw_p44, List.forall_mem_cons.mpr ⟨lw_p45, List.forall_mem_cons.mpr ⟨lw_p46, List.forall_mem_cons.mpr ⟨lw_p47, fun _ h => absurd h List.not_mem_nil⟩⟩⟩⟩⟩⟩⟩⟩⟩⟩⟩⟩⟩⟩⟩⟩
theorem lw_p48 : lw_okq (⟨"CustomsDeskModel", "quotaAt", "(II)I"⟩, 16) := ⟨⟨by decide +kernel, by decide +kernel⟩, List.mem_of_getElem? (i := 1115) (by decide +kernel), List.mem_of_getElem? (i := 1263) (by decide +kernel), List.mem_of_getElem? (i := 1264) (by decide +kernel)⟩
theorem lw_p49 : lw_okq (⟨"CustomsDeskModel", "wrongGoods", "(IIII)I"⟩, 16) := ⟨⟨by decide +kernel, by decide +kernel⟩, List.mem_of_getElem? (i := 1115) (by decide +kernel), List.mem_of_getElem? (i := 1276) (by decide +kernel), List.mem_of_getElem? (i := 1277) (by decide +kernel)⟩
theorem lw_p50 : lw_okq (⟨"CustomsDeskModel", "goodsRate", "(IIIII)I"⟩, 16) := ⟨⟨by decide +kernel, by decide +kernel⟩, List.mem_of_getElem? (i := 1115) (by decide +kernel), List.mem_of_getElem? (i := 1280) (by decide +kernel), List.mem_of_getElem? (i := 1281) (by decide +kernel)⟩
theorem lw_p51 : lw_okq (⟨"CustomsDeskModel", "preferred", "(IIII)I"⟩, 16) := ⟨⟨by decide +kernel, by decide +kernel⟩, List.mem_of_getElem? (i := 1115) (by decide +kernel), List.mem_of_getElem? (i := 1284) (by decide +kernel), List.mem_of_getElem? (i := 1285) (by decide +kernel)⟩
theorem lw_p52 : lw_okq (⟨"CustomsDeskModel", "isFor", "(III)Z"⟩, 16) := ⟨⟨by decide +kernel, by decide +kernel⟩, List.mem_of_getElem? (i := 1115) (by decide +kernel), List.mem_of_getElem? (i := 1288) (by decide +kernel), List.mem_of_getElem? (i := 1289) (by decide +kernel)⟩
theorem lw_p53 : lw_okq (⟨"CustomsDeskModel", "isUnder", "(II)Z"⟩, 16) := ⟨⟨by decide +kernel, by decide +kernel⟩, List.mem_of_getElem? (i := 1115) (by decide +kernel), List.mem_of_getElem? (i := 1292) (by decide +kernel), List.mem_of_getElem? (i := 1293) (by decide +kernel)⟩
theorem lw_p54 : lw_okq (⟨"CustomsDeskModel", "meets", "(III)Z"⟩, 16) := ⟨⟨by decide +kernel, by decide +kernel⟩, List.mem_of_getElem? (i := 1115) (by decide +kernel), List.mem_of_getElem? (i := 1296) (by decide +kernel), List.mem_of_getElem? (i := 1297) (by decide +kernel)⟩
theorem lw_p55 : lw_okq (⟨"CustomsDeskModel", "isSuspended", "(II)Z"⟩, 16) := ⟨⟨by decide +kernel, by decide +kernel⟩, List.mem_of_getElem? (i := 1115) (by decide +kernel), List.mem_of_getElem? (i := 1300) (by decide +kernel), List.mem_of_getElem? (i := 1301) (by decide +kernel)⟩
theorem lw_p56 : lw_okq (⟨"CustomsDeskModel", "goodsFrom", "(IIIII)I"⟩, 16) := ⟨⟨by decide +kernel, by decide +kernel⟩, List.mem_of_getElem? (i := 1115) (by decide +kernel), List.mem_of_getElem? (i := 1308) (by decide +kernel), List.mem_of_getElem? (i := 1309) (by decide +kernel)⟩
theorem lw_p57 : lw_okq (⟨"CustomsDeskModel", "partsOrigin", "()I"⟩, 16) := ⟨⟨by decide +kernel, by decide +kernel⟩, List.mem_of_getElem? (i := 1115) (by decide +kernel), List.mem_of_getElem? (i := 1328) (by decide +kernel), List.mem_of_getElem? (i := 1329) (by decide +kernel)⟩
theorem lw_p58 : lw_okq (⟨"CustomsDeskModel", "partsValue", "()I"⟩, 16) := ⟨⟨by decide +kernel, by decide +kernel⟩, List.mem_of_getElem? (i := 1115) (by decide +kernel), List.mem_of_getElem? (i := 1332) (by decide +kernel), List.mem_of_getElem? (i := 1333) (by decide +kernel)⟩
theorem lw_p59 : lw_okq (⟨"CustomsDeskModel", "isDecl", "(I)Z"⟩, 16) := ⟨⟨by decide +kernel, by decide +kernel⟩, List.mem_of_getElem? (i := 1115) (by decide +kernel), List.mem_of_getElem? (i := 1344) (by decide +kernel), List.mem_of_getElem? (i := 1345) (by decide +kernel)⟩
theorem lw_p60 : lw_okq (⟨"CustomsDeskModel", "declAt", "(II)I"⟩, 16) := ⟨⟨by decide +kernel, by decide +kernel⟩, List.mem_of_getElem? (i := 1115) (by decide +kernel), List.mem_of_getElem? (i := 1348) (by decide +kernel), List.mem_of_getElem? (i := 1349) (by decide +kernel)⟩
theorem lw_p61 : lw_okq (⟨"CustomsDeskModel", "claims", "(II)I"⟩, 16) := ⟨⟨by decide +kernel, by decide +kernel⟩, List.mem_of_getElem? (i := 1115) (by decide +kernel), List.mem_of_getElem? (i := 1356) (by decide +kernel), List.mem_of_getElem? (i := 1357) (by decide +kernel)⟩
theorem lw_p62 : lw_okq (⟨"CustomsDeskModel", "rateNow", "(I)I"⟩, 16) := ⟨⟨by decide +kernel, by decide +kernel⟩, List.mem_of_getElem? (i := 1115) (by decide +kernel), List.mem_of_getElem? (i := 1360) (by decide +kernel), List.mem_of_getElem? (i := 1361) (by decide +kernel)⟩
theorem lw_p63 : lw_okq (⟨"CustomsDeskModel", "serves", "(I)I"⟩, 16) := ⟨⟨by decide +kernel, by decide +kernel⟩, List.mem_of_getElem? (i := 1115) (by decide +kernel), List.mem_of_getElem? (i := 1368) (by decide +kernel), List.mem_of_getElem? (i := 1369) (by decide +kernel)⟩
def lw_privs_4 : List (MethodName × Nat) := [(⟨"CustomsDeskModel", "quotaAt", "(II)I"⟩, 16), (⟨"CustomsDeskModel", "wrongGoods", "(IIII)I"⟩, 16), (⟨"CustomsDeskModel", "goodsRate", "(IIIII)I"⟩, 16), (⟨"CustomsDeskModel", "preferred", "(IIII)I"⟩, 16), (⟨"CustomsDeskModel", "isFor", "(III)Z"⟩, 16), (⟨"CustomsDeskModel", "isUnder", "(II)Z"⟩, 16), (⟨"CustomsDeskModel", "meets", "(III)Z"⟩, 16), (⟨"CustomsDeskModel", "isSuspended", "(II)Z"⟩, 16), (⟨"CustomsDeskModel", "goodsFrom", "(IIIII)I"⟩, 16), (⟨"CustomsDeskModel", "partsOrigin", "()I"⟩, 16), (⟨"CustomsDeskModel", "partsValue", "()I"⟩, 16), (⟨"CustomsDeskModel", "isDecl", "(I)Z"⟩, 16), (⟨"CustomsDeskModel", "declAt", "(II)I"⟩, 16), (⟨"CustomsDeskModel", "claims", "(II)I"⟩, 16), (⟨"CustomsDeskModel", "rateNow", "(I)I"⟩, 16), (⟨"CustomsDeskModel", "serves", "(I)I"⟩, 16)]
theorem lw_r4 : ∀ q ∈ lw_privs_4, lw_okq q := List.forall_mem_cons.mpr ⟨lw_p48, List.forall_mem_cons.mpr ⟨lw_p49, List.forall_mem_cons.mpr ⟨lw_p50, List.forall_mem_cons.mpr ⟨lw_p51, List.forall_mem_cons.mpr ⟨lw_p52, List.forall_mem_cons.mpr ⟨lw_p53, List.forall_mem_cons.mpr ⟨lw_p54, List.forall_mem_cons.mpr ⟨lw_p55, List.forall_mem_cons.mpr ⟨lw_p56, List.forall_mem_cons.mpr ⟨lw_p57, List.forall_mem_cons.mpr ⟨lw_p58, List.forall_mem_cons.mpr ⟨lw_p59, List.forall_mem_cons.mpr ⟨lw_p60, List.forall_mem_cons.mpr ⟨lw_p61, List.forall_mem_cons.mpr ⟨lw_p62, List.forall_mem_cons.mpr ⟨lw_p63, fun _ h => absurd h List.not_mem_nil⟩⟩⟩⟩⟩⟩⟩⟩⟩⟩⟩⟩⟩⟩⟩⟩
theorem lw_p64 : lw_okq (⟨"CustomsDeskModel", "isGood", "(II)Z"⟩, 16) := ⟨⟨by decide +kernel, by decide +kernel⟩, List.mem_of_getElem? (i := 1115) (by decide +kernel), List.mem_of_getElem? (i := 1372) (by decide +kernel), List.mem_of_getElem? (i := 1373) (by decide +kernel)⟩
theorem lw_p65 : lw_okq (⟨"CustomsDeskModel", "ends", "()I"⟩, 16) := ⟨⟨by decide +kernel, by decide +kernel⟩, List.mem_of_getElem? (i := 1115) (by decide +kernel), List.mem_of_getElem? (i := 1380) (by decide +kernel), List.mem_of_getElem? (i := 1381) (by decide +kernel)⟩
theorem lw_p66 : lw_okq (⟨"CustomsDeskModel", "settles", "(I)V"⟩, 16) := ⟨⟨by decide +kernel, by decide +kernel⟩, List.mem_of_getElem? (i := 1115) (by decide +kernel), List.mem_of_getElem? (i := 1384) (by decide +kernel), List.mem_of_getElem? (i := 1385) (by decide +kernel)⟩
theorem lw_p67 : lw_okq (⟨"CustomsDeskModel", "inQuota", "(I)I"⟩, 16) := ⟨⟨by decide +kernel, by decide +kernel⟩, List.mem_of_getElem? (i := 1115) (by decide +kernel), List.mem_of_getElem? (i := 1388) (by decide +kernel), List.mem_of_getElem? (i := 1389) (by decide +kernel)⟩
theorem lw_p68 : lw_okq (⟨"CustomsDeskModel", "fromNow", "(I)I"⟩, 16) := ⟨⟨by decide +kernel, by decide +kernel⟩, List.mem_of_getElem? (i := 1115) (by decide +kernel), List.mem_of_getElem? (i := 1392) (by decide +kernel), List.mem_of_getElem? (i := 1393) (by decide +kernel)⟩
theorem lw_p69 : lw_okq (⟨"CustomsDeskModel", "hinders", "(I)I"⟩, 16) := ⟨⟨by decide +kernel, by decide +kernel⟩, List.mem_of_getElem? (i := 1115) (by decide +kernel), List.mem_of_getElem? (i := 1400) (by decide +kernel), List.mem_of_getElem? (i := 1401) (by decide +kernel)⟩
theorem lw_p70 : lw_okq (⟨"CustomsDeskModel", "givesBack", "(II)I"⟩, 16) := ⟨⟨by decide +kernel, by decide +kernel⟩, List.mem_of_getElem? (i := 1115) (by decide +kernel), List.mem_of_getElem? (i := 1404) (by decide +kernel), List.mem_of_getElem? (i := 1405) (by decide +kernel)⟩
theorem lw_p71 : lw_okq (⟨"CustomsDeskModel", "inState", "(I)I"⟩, 16) := ⟨⟨by decide +kernel, by decide +kernel⟩, List.mem_of_getElem? (i := 1115) (by decide +kernel), List.mem_of_getElem? (i := 1420) (by decide +kernel), List.mem_of_getElem? (i := 1421) (by decide +kernel)⟩
theorem lw_p72 : lw_okq (⟨"CustomsDeskModel", "keptOf", "(I)I"⟩, 16) := ⟨⟨by decide +kernel, by decide +kernel⟩, List.mem_of_getElem? (i := 1115) (by decide +kernel), List.mem_of_getElem? (i := 1432) (by decide +kernel), List.mem_of_getElem? (i := 1433) (by decide +kernel)⟩
theorem lw_p73 : lw_okq (⟨"CustomsDeskModel", "readsEntry", "(I)V"⟩, 16) := ⟨⟨by decide +kernel, by decide +kernel⟩, List.mem_of_getElem? (i := 1115) (by decide +kernel), List.mem_of_getElem? (i := 1456) (by decide +kernel), List.mem_of_getElem? (i := 1457) (by decide +kernel)⟩
theorem lw_p74 : lw_okq (⟨"CustomsDeskModel", "readsCode", "()I"⟩, 16) := ⟨⟨by decide +kernel, by decide +kernel⟩, List.mem_of_getElem? (i := 1115) (by decide +kernel), List.mem_of_getElem? (i := 1460) (by decide +kernel), List.mem_of_getElem? (i := 1461) (by decide +kernel)⟩
theorem lw_p75 : lw_okq (⟨"CustomsDeskModel", "readsDigit", "(CC)I"⟩, 16) := ⟨⟨by decide +kernel, by decide +kernel⟩, List.mem_of_getElem? (i := 1115) (by decide +kernel), List.mem_of_getElem? (i := 1464) (by decide +kernel), List.mem_of_getElem? (i := 1465) (by decide +kernel)⟩
theorem lw_p76 : lw_okq (⟨"CustomsDeskModel", "here", "()I"⟩, 16) := ⟨⟨by decide +kernel, by decide +kernel⟩, List.mem_of_getElem? (i := 1115) (by decide +kernel), List.mem_of_getElem? (i := 1468) (by decide +kernel), List.mem_of_getElem? (i := 1469) (by decide +kernel)⟩
theorem lw_p77 : lw_okq (⟨"CustomsDeskModel", "reads", "(C)V"⟩, 16) := ⟨⟨by decide +kernel, by decide +kernel⟩, List.mem_of_getElem? (i := 1115) (by decide +kernel), List.mem_of_getElem? (i := 1472) (by decide +kernel), List.mem_of_getElem? (i := 1473) (by decide +kernel)⟩
theorem lw_p78 : lw_okq (⟨"CustomsDeskModel", "readsNumber", "()I"⟩, 16) := ⟨⟨by decide +kernel, by decide +kernel⟩, List.mem_of_getElem? (i := 1115) (by decide +kernel), List.mem_of_getElem? (i := 1476) (by decide +kernel), List.mem_of_getElem? (i := 1477) (by decide +kernel)⟩
theorem lw_p79 : lw_okq (⟨"CustomsDeskModel", "lodgesEntry", "(I)Z"⟩, 16) := ⟨⟨by decide +kernel, by decide +kernel⟩, List.mem_of_getElem? (i := 1115) (by decide +kernel), List.mem_of_getElem? (i := 1480) (by decide +kernel), List.mem_of_getElem? (i := 1481) (by decide +kernel)⟩
def lw_privs_5 : List (MethodName × Nat) := [(⟨"CustomsDeskModel", "isGood", "(II)Z"⟩, 16), (⟨"CustomsDeskModel", "ends", "()I"⟩, 16), (⟨"CustomsDeskModel", "settles", "(I)V"⟩, 16), (⟨"CustomsDeskModel", "inQuota", "(I)I"⟩, 16), (⟨"CustomsDeskModel", "fromNow", "(I)I"⟩, 16), (⟨"CustomsDeskModel", "hinders", "(I)I"⟩, 16), (⟨"CustomsDeskModel", "givesBack", "(II)I"⟩, 16), (⟨"CustomsDeskModel", "inState", "(I)I"⟩, 16), (⟨"CustomsDeskModel", "keptOf", "(I)I"⟩, 16), (⟨"CustomsDeskModel", "readsEntry", "(I)V"⟩, 16), (⟨"CustomsDeskModel", "readsCode", "()I"⟩, 16), (⟨"CustomsDeskModel", "readsDigit", "(CC)I"⟩, 16), (⟨"CustomsDeskModel", "here", "()I"⟩, 16), (⟨"CustomsDeskModel", "reads", "(C)V"⟩, 16), (⟨"CustomsDeskModel", "readsNumber", "()I"⟩, 16), (⟨"CustomsDeskModel", "lodgesEntry", "(I)Z"⟩, 16)]
theorem lw_r5 : ∀ q ∈ lw_privs_5, lw_okq q := List.forall_mem_cons.mpr ⟨lw_p64, List.forall_mem_cons.mpr ⟨lw_p65, List.forall_mem_cons.mpr ⟨lw_p66, List.forall_mem_cons.mpr ⟨lw_p67, List.forall_mem_cons.mpr ⟨lw_p68, List.forall_mem_cons.mpr ⟨lw_p69, List.forall_mem_cons.mpr ⟨lw_p70, List.forall_mem_cons.mpr ⟨lw_p71, List.forall_mem_cons.mpr ⟨lw_p72, List.forall_mem_cons.mpr ⟨lw_p73, List.forall_mem_cons.mpr ⟨lw_p74, List.forall_mem_cons.mpr ⟨lw_p75, List.forall_mem_cons.mpr ⟨lw_p76, List.forall_mem_cons.mpr ⟨lw_p77, List.forall_mem_cons.mpr ⟨lw_p78, List.forall_mem_cons.mpr ⟨lw_p79, fun _ h => absurd h List.not_mem_nil⟩⟩⟩⟩⟩⟩⟩⟩⟩⟩⟩⟩⟩⟩⟩⟩
def lw_privs : List (MethodName × Nat) := lw_privs_1 ++ (lw_privs_2 ++ (lw_privs_3 ++ (lw_privs_4 ++ (lw_privs_5))))
def lw_tbl : List Cond := k2_sels lw_privs ++ tables_1
theorem lw_privs_ok : ∀ q ∈ lw_privs, lw_okq q := by
  show ∀ q ∈ lw_privs_1 ++ (lw_privs_2 ++ (lw_privs_3 ++ (lw_privs_4 ++ (lw_privs_5)))), lw_okq q
  exact List.forall_mem_append.mpr ⟨lw_r1, List.forall_mem_append.mpr ⟨lw_r2, List.forall_mem_append.mpr ⟨lw_r3, List.forall_mem_append.mpr ⟨lw_r4, lw_r5⟩⟩⟩⟩
/-- the streams that the claim lets the run draw from -/
abbrev lw_cs : List Choice := [Jvm.Choice.named "NaN.bits"]
theorem lw_bits : nanBits ∈ lw_cs := by first | decide | exact List.mem_cons_self | simp [lw_cs, nanBits]
end
section
/-! ===== BEGIN words of one list among another's, by their places ===== -/
theorem goodIn_r {big : List Cond} (ws : List Cond) (ps : List Nat) (hp : ws = ps.filterMap (fun i => big[i]?)) (h : ws.all goodWord = true) : GoodIn big ws := by
  intro w hw
  have h1 := List.all_eq_true.mp h w hw
  rw [hp] at hw
  obtain ⟨i, -, hi⟩ := List.mem_filterMap.mp hw
  have hm : w ∈ big := by first | exact List.mem_of_getElem? hi | exact List.getElem?_mem hi
  exact ⟨hm, good_of_word h1⟩
theorem goodIn_app {big a b : List Cond} (ha : GoodIn big a) (hb : GoodIn big b) : GoodIn big (a ++ b) := fun w h => (List.mem_append.mp h).elim (ha w) (hb w)
theorem goodIn_ca {big a b : List Cond} {c : Cond} (ha : GoodIn big (c :: a)) (hb : GoodIn big b) : GoodIn big (c :: (a ++ b)) := fun w h => (List.mem_cons.mp h).elim (fun e => ha w (List.mem_cons.mpr (Or.inl e))) (fun h => (List.mem_append.mp h).elim (fun h => ha w (List.mem_cons.mpr (Or.inr h))) (hb w))
theorem goodIn_sub {big ws : List Cond} (hm : ∀ w ∈ ws, w ∈ big) (h : ws.all goodWord = true) : GoodIn big ws := fun w hw => ⟨hm w hw, good_of_word (List.all_eq_true.mp h w hw)⟩
/-! ===== END ===== -/
/-! ===== BEGIN exceptions that leave a method, and their catching by the caller (launches without stack traces) ===== -/
section VXA
/-! The laws vx_back, vx_callV, vx_callS, vx_callSW, vx_throw0, vx_throwS follow proofs of the library, with one case more: JvmDerived/Free/Laws.lean (Back.of_free), Shelf42/LK1.lean (callV, callS), Shelf/KitTraced.lean (throwNew0V, throwNewS). -/
/-- where a method has thrown q: the class by its name, the cell, what was written, the world -/
def vx_T (XC : String → State → State → Prop) (st : State) (q : Addr) (t : State) (mc ms : Nat) (free : Addr → Prop) : Prop :=
  ∃ (E : String) (ce : Cell) (L : List Loc), XC E st t ∧ t.heap[q]? = some ce ∧ ce.vm = .none ∧ st.vm.findClass E = some ce.cls ∧ st.WarmedH t.vm ∧ st.sameButNew ({ t with vm := st.vm } : State) L mc ms ∧ ∀ z ∈ L, free z.base
def vx_Q (Qc : Array Value → State → Outcome → State → Prop) (XC : String → State → State → Prop) (mc ms : Nat) (free : Addr → Prop) : Array Value → State → Outcome → State → Prop := fun a st o t =>
  (Qc a st o t ∧ ∃ L, FrameEnd st o t L mc ms ∧ ∀ q ∈ L, free q.base) ∨ ∃ q, o = .threw q ∧ vx_T XC st q t mc ms free
/-- a callee that returns or throws -/
def vx_Met (l : Launch) (y : MethodName) (ws : List Cond) (rm : Room) (Pc : Array Value → State → Prop) (Qc : Array Value → State → Outcome → State → Prop) (XC : String → State → State → Prop) (mc ms : Nat) (free : Addr → Prop) : Prop :=
  MetFree l y (headSpec ws rm) Pc (fun _ _ _ _ _ => True) (vx_Q Qc XC mc ms free)
def vx_Post (XC : String → State → State → Prop) (mc ms : Nat) (free : Addr → Prop) : Pt → Array Value → Addr → Pt → Prop := fun A a q B =>
  ∃ (g : JFrame) (mk : MethodId) (t : State) (L : List Loc) (E : String) (ce : Cell), B.U.heap = t.heap ∧ B.U.vm = t.vm ∧ XC E (A.U.calling g mk a) t ∧ t.heap[q]? = some ce ∧ ce.vm = .none ∧ A.U.vm.findClass E = some ce.cls ∧ B.locs = A.locs ++ L ∧ (∀ z ∈ L, free z.base) ∧ B.cells = A.cells + mc ∧ B.slots = A.slots + ms
def vx_Back (l : Launch) (R : Room) (p : Program) (e : Env) (below : List Frame) (s : State) (sargs : Array Value) (y : MethodName) (len W9 : Nat)
    (Pre : Pt → Array Value → Prop) (Post : Pt → Array Value → Option Value → Pt → Prop) (PostX : Pt → Array Value → Addr → Pt → Prop) : Prop :=
  ∀ (m : MethodId) (meth : Method) (c : Code) (A : Pt) (g : JFrame) (ig : Instr) (mk : MethodId) (a : Array Value),
    Stand p l e R s m sargs below meth c A.U A.locs A.cells A.slots → g.method = m → g.locals.size = c.maxLocals → decode c.code g.pc = .ok (ig, len) →
    2 * g.monitorRoom + (g.stack.map fun v => v.category).sum ≤ W9 → A.U.methodNamed? y = some mk → Pre A a →
    (∃ (v : Option Value) (B : Pt), Stand p l e R s m sargs below meth c B.U B.locs B.cells B.slots ∧ Post A a v B ∧
      Steps p.tables e below (doInvoke e (A.U.setTop g) [] mk a).1 (B.U.setTop { g with pc := g.pc + len, stack := v.toList ++ g.stack })) ∨
    (∃ (q : Addr) (B : Pt), Stand p l e R s m sargs below meth c B.U B.locs B.cells B.slots ∧ PostX A a q B ∧
      Steps p.tables e below (doInvoke e (A.U.setTop g) [] mk a).1 ((B.U.setTop g).pushFrame (.throwing q)))
section Payer
variable {l : Launch} {R : Room} {p : Program} {e : Env} {below : List Frame} {s : State} {sargs : Array Value} {y : MethodName} {len W9 : Nat}
theorem vx_back {ws : List Cond} {rm : Room} {Pc : Array Value → State → Prop} {Qc : Array Value → State → Outcome → State → Prop} {XC : String → State → State → Prop} {mc ms : Nat} {free : Addr → Prop} {bytes : ByteArray} {maxL : Nat} {ret : Option FieldType}
    (hM : vx_Met l y ws rm Pc Qc XC mc ms free) (hblind : FrameBlind Pc) (hrc : rm.cells = mc) (hrs : rm.slots = ms)
    (hframes : rm.frames + 1 ≤ R.frames) (hlocals : W9 + (maxL + 11) + rm.locals ≤ R.locals)
    (hws : ∀ w ∈ ws, ∀ a' U, s.WarmedH U.vm → w.before a' U = true) (hcode : Cond.code y bytes maxL ret ∈ ws) (hinit : ∀ a' U, s.WarmedH U.vm → (Cond.initialized y.cls).before a' U = true) :
    vx_Back l R p e below s sargs y len W9 (PreOf R mc ms Pc) (PostOf Qc mc ms free) (vx_Post XC mc ms free) := by
  intro m meth c A g ig mk a X hg hsize hdg hW hn hp
  have h1 : (headSpec ws rm).pre.before a A.U = true := atoms_intro fun w hw => hws w hw _ _ X.warmed
  have h2 : (Cond.code y bytes maxL ret).before a A.U = true := hws _ hcode _ _ X.warmed
  have h3 : (Cond.initialized y.cls).before a A.U = true := hinit _ _ X.warmed
  have h4 : A.cells + (headSpec ws rm).room.cells ≤ R.cells := by rw [show (headSpec ws rm).room.cells = mc from hrc]; exact hp.1
  have h5 : A.slots + (headSpec ws rm).room.slots ≤ R.slots := by rw [show (headSpec ws rm).room.slots = ms from hrs]; exact hp.2.1
  have hPc : Pc a (A.U.calling g mk a) := hblind _ _ _ _ hp.2.2
  obtain ⟨U, Ls, c0, s0⟩ := A
  dsimp only [Pt.U, Pt.locs, Pt.cells, Pt.slots] at h1 h2 h3 h4 h5 X hn hPc ⊢
  obtain ⟨methY, cY, hmY, hcY, -, hlY, -, -, -, -⟩ := Cond.code_spec hn h2
  obtain ⟨kY, hkY, -⟩ := className_of_methodNamed hn
  have hinitY : kY.init = .initialized := Cond.initialized_spec (findClass_of_methodNamed hn) hkY h3
  have h : At U g.method c below := by rw [hg]; exact X.here
  have hlocals9 : W9 + (maxL + 11) + (headSpec ws rm).room.locals ≤ R.locals := hlocals
  have happ : (headSpec ws rm).appliesLoose y e.platform (U.calling g mk a) = true :=
    Spec.appliesLoose_calling (g := g) h hdg hn hkY hinitY
      (X.room_calling (g := g) (R' := (headSpec ws rm).room) hsize hmY hcY hframes (by rw [hlY]; omega) h4 h5) h1
  obtain ⟨mid, hmid⟩ := h.above
  have hfr : (U.setTop g).frames = (.java g :: mid) ++ below := by rw [State.frames_setTop' g h.top, hmid]; rfl
  obtain ⟨o, s₂, hsteps, -, hend, hq⟩ := Steps.callFree hM p X.admits X.cas X.clock (acts := []) hfr happ hPc trivial
  have hq' : vx_Q Qc XC mc ms free a (U.calling g mk a) o s₂ := hq
  rw [State.frames_setTop' g h.top] at hend
  obtain ⟨g₀, hg0⟩ := Option.isSome_iff_exists.mp h.top
  obtain ⟨r, hr⟩ := State.topJava?_eq_some.mp hg0
  have hr' : (({ U with heap := s₂.heap, slotsUsed := s₂.slotsUsed } : State).setVm s₂.vm).frames = .java g₀ :: r := hr
  rcases hq' with ⟨hqc, L, hfe, hL⟩ | ⟨q, rfl, E, ce, L, hx, hce, hcv, hcl, hW₂, hsm, hL⟩
  · obtain ⟨⟨v, rfl⟩, hW₂, e2, q2, q3, q4, q5, q6⟩ := id hfe
    have e3 : s₂ = ({ (U.calling g mk a).setFrames s₂.frames with heap := s₂.heap, slotsUsed := s₂.slotsUsed } : State).setVm s₂.vm := by
      have : s₂ = ({ s₂ with vm := (U.calling g mk a).vm } : State).setVm s₂.vm := rfl
      rw [e2] at this
      exact this
    obtain ⟨c₂, i₂, len₂, hc₂, hd₂, hf₂⟩ := hend
    have hW' : U.WarmedH s₂.vm := hW₂
    have hcc : c₂ = c := by
      have h1 : s₂.code? g.method = U.code? g.method := by
        rw [State.code?_eq, State.code?_eq, hW'.alike.method?]
      exact Option.some.inj (hc₂.symm.trans (h1.trans h.code))
    subst hcc
    have hlen : len₂ = len := by rw [hdg] at hd₂; cases hd₂; rfl
    subst hlen
    have hs₂ : s₂ = (({ U with heap := s₂.heap, slotsUsed := s₂.slotsUsed } : State).setVm s₂.vm).setTop { g with pc := g.pc + len₂, stack := v.toList ++ g.stack } := by
      refine e3.trans ?_
      rw [hf₂, State.calling_eq h.top, State.setFrames_setFrames, State.setTop_of_frames _ hr', hr]
      rfl
    have hsame : U.sameButNew ({ U with heap := s₂.heap, slotsUsed := s₂.slotsUsed } : State) L mc ms := by
      refine ⟨?_, q2, q3, q4, q5, q6⟩
      obtain ⟨t, ht, -⟩ := State.frames_cons hr
      show ({ U with heap := s₂.heap, slotsUsed := s₂.slotsUsed } : State) = { U.setFrames U.frames with heap := s₂.heap, slotsUsed := s₂.slotsUsed }
      rw [State.setFrames_self ht]
    subst hg
    refine Or.inl ⟨v, ⟨(({ U with heap := s₂.heap, slotsUsed := s₂.slotsUsed } : State).setVm s₂.vm), Ls ++ L, c0 + mc, s0 + ms⟩,
      ⟨X.admits, X.cas, X.clock, X.frames, X.room, X.hears, X.method, X.code, (X.here.setHeapUsed s₂.heap s₂.slotsUsed).setVm hW'.alike, X.tail, State.WarmedH.trans X.warmed hW', X.limits, X.bytes, X.same.trans (hsame.setVm s.vm)⟩,
      ⟨g, mk, s₂, L, rfl, rfl, hqc, rfl, hL, rfl, rfl⟩, ?_⟩
    show Steps p.tables e below _ ((({ U with heap := s₂.heap, slotsUsed := s₂.slotsUsed } : State).setVm s₂.vm).setTop { g with pc := g.pc + len₂, stack := v.toList ++ g.stack })
    rw [← hs₂]
    exact hsteps
  · obtain ⟨e2, q2, q3, q4, q5, q6⟩ := id hsm
    have e3 : s₂ = ({ (U.calling g mk a).setFrames s₂.frames with heap := s₂.heap, slotsUsed := s₂.slotsUsed } : State).setVm s₂.vm := by
      have : s₂ = ({ s₂ with vm := (U.calling g mk a).vm } : State).setVm s₂.vm := rfl
      rw [e2] at this
      exact this
    have hf₂ : s₂.frames = .throwing q :: .java g :: U.frames.tail := hend
    have hW' : U.WarmedH s₂.vm := hW₂
    have hs₂ : s₂ = ((({ U with heap := s₂.heap, slotsUsed := s₂.slotsUsed } : State).setVm s₂.vm).setTop g).pushFrame (.throwing q) := by
      refine e3.trans ?_
      rw [hf₂, State.calling_eq h.top, State.setFrames_setFrames, State.pushFrame, State.frames_setTop _ hr', State.setTop_of_frames _ hr', State.setFrames_setFrames, hr]
      rfl
    have hsame : U.sameButNew ({ U with heap := s₂.heap, slotsUsed := s₂.slotsUsed } : State) L mc ms := by
      refine ⟨?_, q2, q3, q4, q5, q6⟩
      obtain ⟨t, ht, -⟩ := State.frames_cons hr
      show ({ U with heap := s₂.heap, slotsUsed := s₂.slotsUsed } : State) = { U.setFrames U.frames with heap := s₂.heap, slotsUsed := s₂.slotsUsed }
      rw [State.setFrames_self ht]
    subst hg
    refine Or.inr ⟨q, ⟨(({ U with heap := s₂.heap, slotsUsed := s₂.slotsUsed } : State).setVm s₂.vm), Ls ++ L, c0 + mc, s0 + ms⟩,
      ⟨X.admits, X.cas, X.clock, X.frames, X.room, X.hears, X.method, X.code, (X.here.setHeapUsed s₂.heap s₂.slotsUsed).setVm hW'.alike, X.tail, State.WarmedH.trans X.warmed hW', X.limits, X.bytes, X.same.trans (hsame.setVm s.vm)⟩,
      ⟨g, mk, s₂, L, E, ce, rfl, rfl, hx, hce, hcv, hcl, rfl, hL, rfl, rfl⟩, ?_⟩
    show Steps p.tables e below _ (((({ U with heap := s₂.heap, slotsUsed := s₂.slotsUsed } : State).setVm s₂.vm).setTop g).pushFrame (.throwing q))
    rw [← hs₂]
    exact hsteps
end Payer
section Calls
variable {p : Program} {l : Launch} {e : Env} {R : Room} {s : State} {m : MethodId} {args : Array Value} {below : List Frame} {meth : Method} {c : Code} {T : State} {locs : List Loc} {cells slots : Nat}
theorem vx_callV (X : Stand p l e R s m args below meth c T locs cells slots) (hexec : p.tables.exec = Jvm.exec) {own C : String} {index : Nat} {y : MethodName} {bytes : ByteArray} {maxL : Nat} {ret : Option FieldType}
    (hown : s.vm.findClass own = some m.cls) (hlink : (Cond.methodLink own index y).before args s = true) (hinst : (Cond.instanceMethod y).before args s = true) (hsel : (Cond.selects C y y).before args s = true)
    (hcode : (Cond.code y bytes maxL ret).before args s = true) (hy : y.cls ≠ "java/lang/invoke/MethodHandle" ∧ y.cls ≠ "java/lang/invoke/VarHandle")
    {W9 : Nat} {Pre : Pt → Array Value → Prop} {Post : Pt → Array Value → Option Value → Pt → Prop} {PostX : Pt → Array Value → Addr → Pt → Prop} (hK : vx_Back l R p e below s args y 3 W9 Pre Post PostX)
    {b : Addr} {cellB : Cell} (hcell : T.heap[b]? = some cellB) (hobj : cellB.vm.isStatics = false) (hcls : s.vm.findClass C = some cellB.cls)
    {g : JFrame} (hg : g.method = m) (hsize : g.locals.size = c.maxLocals) {argsL rest : List Value} (hlen : ∀ sig, parseMethodDescriptor y.desc = some sig → argsL.length = sig.parameters.length)
    (hstack : g.stack = argsL.reverse ++ .ref b :: rest) (hW : 2 * g.monitorRoom + (rest.map fun v => v.category).sum ≤ W9) (hdg : decode c.code g.pc = .ok (.invokevirtual index, 3))
    (hpre : ∀ vm₁, s.WarmedH vm₁ → Pre ⟨T.setVm vm₁, locs, cells, slots⟩ (Value.ref b :: argsL).toArray) :
    (∃ (v : Option Value) (vm₁ : Vm) (B : Pt), s.WarmedH vm₁ ∧ Stand p l e R s m args below meth c B.U B.locs B.cells B.slots ∧ Post ⟨T.setVm vm₁, locs, cells, slots⟩ (Value.ref b :: argsL).toArray v B ∧
      ∀ target, Steps p.tables e below (B.U.setTop { g with pc := g.pc + 3, stack := v.toList ++ rest }) target → Steps p.tables e below (T.setTop g) target) ∨
    (∃ (q : Addr) (vm₁ : Vm) (B : Pt), s.WarmedH vm₁ ∧ Stand p l e R s m args below meth c B.U B.locs B.cells B.slots ∧ PostX ⟨T.setVm vm₁, locs, cells, slots⟩ (Value.ref b :: argsL).toArray q B ∧
      Steps p.tables e below (T.setTop g) ((B.U.setTop { g with stack := rest }).pushFrame (.throwing q))) := by
  obtain ⟨mk, methM, hnamed, hmethM, hstM, habM⟩ := Cond.instanceMethod_spec hinst
  obtain ⟨methM', cM, hmethM', -, -, -, -, -, -, hsigM⟩ := Cond.code_spec hnamed hcode
  cases hmethM.symm.trans hmethM'
  obtain ⟨c2, r2, m2, q1, q2, q3, q4, kP, hkP, hkPi⟩ := Cond.selects_spec hsel
  cases hcls.symm.trans q1
  cases (State.methodFound?_of_named hnamed hy).symm.trans q2
  cases hnamed.symm.trans q3
  have hselP : selectMethod e.platform s.vm cellB.cls mk = .method mk := by rw [Launch.admits_selectMethod X.admits]; exact q4
  obtain ⟨vm₁, X₁, hstep₁⟩ := X.invokevirtual hexec hown hlink hnamed hmethM hstM hkP hkPi hy (a := b) (cell := cellB) hcell
    (fun z h => by rw [h] at hobj; cases hobj) hselP hmethM habM hkP hkPi (g := g) hg (argsL := argsL) (rest := rest) (hlen _ hsigM) hstack hdg
  rcases hK m meth c ⟨T.setVm vm₁, locs, cells, slots⟩ { g with stack := rest } (.invokevirtual index) mk (Value.ref b :: argsL).toArray X₁ hg hsize hdg hW (X₁.named hnamed) (hpre vm₁ X₁.warmed) with ⟨v, B, X', hpost, hsteps⟩ | ⟨q, B, X', hpost, hsteps⟩
  · exact Or.inl ⟨v, vm₁, B, X₁.warmed, X', hpost, fun target h => hstep₁ _ fun acts => by rw [doInvoke_state]; exact hsteps.trans h⟩
  · exact Or.inr ⟨q, vm₁, B, X₁.warmed, X', hpost, hstep₁ _ fun acts => by rw [doInvoke_state]; exact hsteps⟩
theorem vx_callS (X : Stand p l e R s m args below meth c T locs cells slots) (hexec : p.tables.exec = Jvm.exec) {own : String} {index : Nat} {y : MethodName} {bytes : ByteArray} {maxL : Nat} {ret : Option FieldType}
    (hown : s.vm.findClass own = some m.cls) (hlink : (Cond.methodLink own index y).before args s = true) (hstat : (Cond.static y).before args s = true) (hinit : (Cond.initialized y.cls).before args s = true)
    (hcode : (Cond.code y bytes maxL ret).before args s = true) (hy : y.cls ≠ "java/lang/invoke/MethodHandle" ∧ y.cls ≠ "java/lang/invoke/VarHandle")
    {W9 : Nat} {Pre : Pt → Array Value → Prop} {Post : Pt → Array Value → Option Value → Pt → Prop} {PostX : Pt → Array Value → Addr → Pt → Prop} (hK : vx_Back l R p e below s args y 3 W9 Pre Post PostX)
    {g : JFrame} (hg : g.method = m) (hsize : g.locals.size = c.maxLocals) {argsL rest : List Value} (hlen : ∀ sig, parseMethodDescriptor y.desc = some sig → argsL.length = sig.parameters.length)
    (hstack : g.stack = argsL.reverse ++ rest) (hW : 2 * g.monitorRoom + (rest.map fun v => v.category).sum ≤ W9) (hdg : decode c.code g.pc = .ok (.invokestatic index, 3))
    (hpre : ∀ vm₁, s.WarmedH vm₁ → Pre ⟨T.setVm vm₁, locs, cells, slots⟩ argsL.toArray) :
    (∃ (v : Option Value) (vm₁ : Vm) (B : Pt), s.WarmedH vm₁ ∧ Stand p l e R s m args below meth c B.U B.locs B.cells B.slots ∧ Post ⟨T.setVm vm₁, locs, cells, slots⟩ argsL.toArray v B ∧
      ∀ target, Steps p.tables e below (B.U.setTop { g with pc := g.pc + 3, stack := v.toList ++ rest }) target → Steps p.tables e below (T.setTop g) target) ∨
    (∃ (q : Addr) (vm₁ : Vm) (B : Pt), s.WarmedH vm₁ ∧ Stand p l e R s m args below meth c B.U B.locs B.cells B.slots ∧ PostX ⟨T.setVm vm₁, locs, cells, slots⟩ argsL.toArray q B ∧
      Steps p.tables e below (T.setTop g) ((B.U.setTop { g with stack := rest }).pushFrame (.throwing q))) := by
  obtain ⟨mk, hnamed⟩ := Cond.code_named hcode
  obtain ⟨methM, cM, hmethM, -, -, -, -, -, -, hsigM⟩ := Cond.code_spec hnamed hcode
  have hstatic : methM.isStatic = true := Cond.static_spec hnamed hmethM hstat
  obtain ⟨kP, hkP, -⟩ := className_of_methodNamed hnamed
  have hinitP : kP.init = .initialized := Cond.initialized_spec (findClass_of_methodNamed hnamed) hkP hinit
  obtain ⟨vm₁, X₁, hstep₁⟩ := X.invokestatic hexec hown hlink hnamed hmethM hstatic hkP hinitP hy (g := g) hg (argsL := argsL) (rest := rest) (hlen _ hsigM) hstack hdg
  rcases hK m meth c ⟨T.setVm vm₁, locs, cells, slots⟩ { g with stack := rest } (.invokestatic index) mk argsL.toArray X₁ hg hsize hdg hW (X₁.named hnamed) (hpre vm₁ X₁.warmed) with ⟨v, B, X', hpost, hsteps⟩ | ⟨q, B, X', hpost, hsteps⟩
  · exact Or.inl ⟨v, vm₁, B, X₁.warmed, X', hpost, fun target h => hstep₁ _ fun acts => by rw [doInvoke_state]; exact hsteps.trans h⟩
  · exact Or.inr ⟨q, vm₁, B, X₁.warmed, X', hpost, hstep₁ _ fun acts => by rw [doInvoke_state]; exact hsteps⟩
end Calls
theorem vx_cls {s : State} {T : State} {vm₁ : Vm} {E : String} {k : ClassId} (hW : s.WarmedH vm₁) (h : (T.setVm vm₁).vm.findClass E = some k) : s.vm.findClass E = some k := by
  have h1 : vm₁.findClass E = some k := h
  rw [hW.alike.findClass] at h1
  exact h1
/-- the method's frame g, with q thrown over it -/
def vx_W (p : Program) (l : Launch) (e : Env) (R : Room) (s : State) (m : MethodId) (args : Array Value) (below : List Frame) (meth : Method) (c : Code) (H : Heap) (locs : List Loc) (cells slots : Nat) (Q : State → Prop) (g : JFrame) (q : Addr) : Prop :=
  ∀ T : State, T.heap = H → Stand p l e R s m args below meth c T locs cells slots → ∃ t, Steps p.tables e below ((T.setTop g).pushFrame (.throwing q)) t ∧ Q t
def vx_Run (p : Program) (l : Launch) (e : Env) (R : Room) (s : State) (m : MethodId) (args : Array Value) (below : List Frame) (meth : Method) (c : Code) (H : Heap) (locs : List Loc) (cells slots mc ms : Nat) (g : JFrame) (rest : List Value) (Qa : State → Outcome → State → Prop) (XC : String → State → State → Prop) (free : Addr → Prop) : Prop :=
  ∀ T : State, T.heap = H → Stand p l e R s m args below meth c T locs cells slots →
    (∃ (v : Option Value) (st₀ t T' : State) (L : List Loc), st₀.heap = H ∧ Stand p l e R s m args below meth c T' (locs ++ L) (cells + mc) (slots + ms) ∧ (∀ q ∈ L, free q.base) ∧ T'.heap = t.heap ∧ T'.vm = t.vm ∧ Qa st₀ (.returned v) t ∧
      Goes p e below T g T' { g with pc := g.pc + 3, stack := v.toList ++ rest }) ∨
    (∃ (q : Addr) (st₀ t T' : State) (L : List Loc) (E : String) (ce : Cell), st₀.heap = H ∧ Stand p l e R s m args below meth c T' (locs ++ L) (cells + mc) (slots + ms) ∧ (∀ z ∈ L, free z.base) ∧ T'.heap = t.heap ∧ T'.vm = t.vm ∧ XC E st₀ t ∧ t.heap[q]? = some ce ∧ ce.vm = .none ∧ s.vm.findClass E = some ce.cls ∧
      Steps p.tables e below (T.setTop g) ((T'.setTop { g with stack := rest }).pushFrame (.throwing q)))
def vx_X {S : Type} (px : S → Prop) (B : String → S → State → Prop) (A : Nat → Prop) : String → State → State → Prop := fun E st t => ∃ u : S, px u ∧ B E u t ∧ va_F A st t
section Runs
variable {p : Program} {l : Launch} {e : Env} {R : Room} {s : State} {m : MethodId} {args : Array Value} {below : List Frame} {meth : Method} {c : Code} {H : Heap} {locs : List Loc} {cells slots : Nat}
variable {y : MethodName} {bytes cc : ByteArray} {maxL nL mc ms n index : Nat} {ret : Option FieldType} {ws : List Cond} {rm : Room} {Pc : Array Value → State → Prop} {Qc : Array Value → State → Outcome → State → Prop} {XC : String → State → State → Prop} {free : Addr → Prop} {Ts : List Cond} {own C : String} {b : Addr} {As rest : List Value} {g : JFrame}
theorem vx_callBack (cb : CallB R s args own index y bytes maxL ret ws rm mc ms n) (hM : vx_Met l y ws rm Pc Qc XC mc ms free) (hbl : FrameBlind Pc) : vx_Back l R p e below s args y 3 8 (PreOf R mc ms Pc) (PostOf Qc mc ms free) (vx_Post XC mc ms free) := by
  obtain ⟨hrc, hrs, hfr, hlo, hws, hcw, -, hini, -⟩ := cb
  exact vx_back (bytes := bytes) (maxL := maxL) (ret := ret) hM hbl hrc hrs hfr hlo hws hcw (fun a' U hW => word_at hW (Or.inl (by first | rfl | simp [Cond.onTables, Cond.keeps, Cond.steady])) hini)
theorem vx_runV (S : CallFix p m c cc nL s args Ts own) (hM : vx_Met l y ws rm Pc Qc XC mc ms free) (cw : CallW R s args own C index y bytes maxL ret ws rm mc ms n) (hp : PreV s H C b Pc As)
    (hg : g.method = m) (hn : As.length = n) (hsize : g.locals.size = nL) (hstack : g.stack = As.reverse ++ .ref b :: rest) (hW : 2 * g.monitorRoom + (rest.map fun v => v.category).sum ≤ 8) (hdg : decode cc g.pc = .ok (.invokevirtual index, 3)) (hf : cells + mc ≤ R.cells ∧ slots + ms ≤ R.slots) :
    vx_Run p l e R s m args below meth c H locs cells slots mc ms g rest (Qc (Value.ref b :: As).toArray) XC free := by
  have hK : vx_Back l R p e below s args y 3 8 (PreOf R mc ms Pc) (PostOf Qc mc ms free) (vx_Post XC mc ms free) := vx_callBack cw.1 hM hp.1
  obtain ⟨⟨-, -, -, -, -, -, hcode, -, hy, hlen, hl⟩, hin, hse⟩ := cw
  obtain ⟨hx, hb, hml, ho, -⟩ := S
  obtain ⟨-, ⟨cellB, hcB, hoB, hclB⟩, hPc⟩ := hp
  intro T hT X
  rcases vx_callV X hx (C := C) (bytes := bytes) (maxL := maxL) (ret := ret) ho hl hin hse hcode hy hK (by rw [hT]; exact hcB) hoB hclB hg (hsize.trans hml.symm) (argsL := As) (rest := rest) (fun sig h => hn.trans (hlen sig h)) hstack hW (by rw [hb]; exact hdg)
    (fun vm₁ hW₁ => ⟨hf.1, hf.2, hPc (T.setVm vm₁) hT hW₁⟩) with ⟨v, vm₁, ⟨U', l2, c2, s2⟩, hW₁, X', ⟨g', mk, t, L, e1, e2, hq, h1, hL, h2, h3⟩, st⟩ | ⟨q, vm₁, ⟨U', l2, c2, s2⟩, hW₁, X', ⟨g', mk, t, L, E, ce, e1, e2, hq, hce, hcv, hcl, h1, hL, h2, h3⟩, st⟩
  · dsimp only [Pt.U, Pt.locs, Pt.cells, Pt.slots] at X' e1 e2 h1 h2 h3 st
    subst h1; subst h2; subst h3
    exact Or.inl ⟨v, (T.setVm vm₁).calling g' mk (Value.ref b :: As).toArray, t, U', L, hT, X', hL, e1, e2, hq, st⟩
  · dsimp only [Pt.U, Pt.locs, Pt.cells, Pt.slots] at X' e1 e2 h1 h2 h3 st hcl
    subst h1; subst h2; subst h3
    exact Or.inr ⟨q, (T.setVm vm₁).calling g' mk (Value.ref b :: As).toArray, t, U', L, E, ce, hT, X', hL, e1, e2, hq, hce, hcv, vx_cls hW₁ hcl, st⟩
theorem vx_runS (S : CallFix p m c cc nL s args Ts own) (hM : vx_Met l y ws rm Pc Qc XC mc ms free) (cw : CallB R s args own index y bytes maxL ret ws rm mc ms n ∧ (Cond.static y).before args s = true) (hp : PreS s H Pc As)
    (hg : g.method = m) (hn : As.length = n) (hsize : g.locals.size = nL) (hstack : g.stack = As.reverse ++ rest) (hW : 2 * g.monitorRoom + (rest.map fun v => v.category).sum ≤ 8) (hdg : decode cc g.pc = .ok (.invokestatic index, 3)) (hf : cells + mc ≤ R.cells ∧ slots + ms ≤ R.slots) :
    vx_Run p l e R s m args below meth c H locs cells slots mc ms g rest (Qc As.toArray) XC free := by
  have hK : vx_Back l R p e below s args y 3 8 (PreOf R mc ms Pc) (PostOf Qc mc ms free) (vx_Post XC mc ms free) := vx_callBack cw.1 hM hp.1
  obtain ⟨⟨-, -, -, -, -, -, hcode, hini, hy, hlen, hl⟩, hstt⟩ := cw
  obtain ⟨hx, hb, hml, ho, -⟩ := S
  intro T hT X
  rcases vx_callS X hx (bytes := bytes) (maxL := maxL) (ret := ret) ho hl hstt hini hcode hy hK hg (hsize.trans hml.symm) (argsL := As) (rest := rest) (fun sig h => hn.trans (hlen sig h)) hstack hW (by rw [hb]; exact hdg)
    (fun vm₁ hW₁ => ⟨hf.1, hf.2, hp.2 (T.setVm vm₁) hT hW₁⟩) with ⟨v, vm₁, ⟨U', l2, c2, s2⟩, hW₁, X', ⟨g', mk, t, L, e1, e2, hq, h1, hL, h2, h3⟩, st⟩ | ⟨q, vm₁, ⟨U', l2, c2, s2⟩, hW₁, X', ⟨g', mk, t, L, E, ce, e1, e2, hq, hce, hcv, hcl, h1, hL, h2, h3⟩, st⟩
  · dsimp only [Pt.U, Pt.locs, Pt.cells, Pt.slots] at X' e1 e2 h1 h2 h3 st
    subst h1; subst h2; subst h3
    exact Or.inl ⟨v, (T.setVm vm₁).calling g' mk As.toArray, t, U', L, hT, X', hL, e1, e2, hq, st⟩
  · dsimp only [Pt.U, Pt.locs, Pt.cells, Pt.slots] at X' e1 e2 h1 h2 h3 st hcl
    subst h1; subst h2; subst h3
    exact Or.inr ⟨q, (T.setVm vm₁).calling g' mk As.toArray, t, U', L, E, ce, hT, X', hL, e1, e2, hq, hce, hcv, vx_cls hW₁ hcl, st⟩
end Runs
section Rows
variable {p : Program} {l : Launch} {e : Env} {R : Room} {s : State} {m : MethodId} {args : Array Value} {below : List Frame} {meth : Method} {c : Code} {H : Heap} {locs : List Loc} {cells slots : Nat} {Q : State → Prop}
variable {mc ms : Nat} {free : Addr → Prop} {A0 A1 : Nat → Prop} {H0 : Heap} {a : Array Value} {pc : Nat} {ls : Array Slot} {st0 rest : List Value}
theorem vx_keep {st₀ t T' : State} {L : List Loc} (h0 : st₀.heap = H) (e1 : T'.heap = t.heap) (hS : va_S A0 H0 H locs) (hA : ∀ q, q < H.size → A1 q → A0 q) (hf : ∀ q, free q → A0 q) (hL : ∀ q ∈ L, free q.base) (hF : va_F A1 st₀ t) :
    H.size ≤ T'.heap.size ∧ (∀ q : Nat, q < H.size → ¬ A1 q → T'.heap[q]? = H[q]?) ∧ va_S A0 H0 T'.heap (locs ++ L) := by
  obtain ⟨hz, hk⟩ := hF
  rw [h0] at hz hk
  exact ⟨by rw [e1]; exact hz, fun q h1 h2 => by rw [e1]; exact hk q h1 h2,
    ⟨Nat.le_trans hS.1 (by rw [e1]; exact hz), fun q h1 h2 => by rw [e1, hk q (Nat.lt_of_lt_of_le h1 hS.1) (fun z => h2 (hA q (Nat.lt_of_lt_of_le h1 hS.1) z))]; exact hS.2.1 q h1 h2, fun q hq => by
      rcases List.mem_append.mp hq with h | h
      · exact hS.2.2 q h
      · exact hf _ (hL q h)⟩⟩
theorem vx_calli {S SX : Type} {post : Int32 → S → Prop} {px : SX → Prop} {B : S → State → Prop} {BX : String → SX → State → Prop} {AX : Nat → Prop} (hr : vx_Run p l e R s m args below meth c H locs cells slots mc ms (F0 m pc ls st0) rest (va_Qi post B A1 a) (vx_X px BX AX) free) (hS : va_S A0 H0 H locs) (hA : ∀ q, q < H.size → A1 q → A0 q) (hf : ∀ q, free q → A0 q) (hAX : ∀ q, q < H.size → AX q → A0 q)
    (kx : ∀ (E : String) (ce : Cell) (q9 : Addr) (u : SX) (t : State) (H1 : Heap) (locs1 : List Loc), t.heap = H1 → s.vm.Alike t.vm → px u → BX E u t → H.size ≤ H1.size → (∀ q : Nat, q < H.size → ¬ AX q → H1[q]? = H[q]?) → va_S A0 H0 H1 locs1 → H1[q9]? = some ce → ce.vm = .none → s.vm.findClass E = some ce.cls → vx_W p l e R s m args below meth c H1 locs1 (cells + mc) (slots + ms) Q (F0 m pc ls rest) q9)
    (kk : ∀ (r : Int32) (u : S) (t : State) (H1 : Heap) (locs1 : List Loc), t.heap = H1 → s.vm.Alike t.vm → post r u → B u t → H.size ≤ H1.size → (∀ q : Nat, q < H.size → ¬ A1 q → H1[q]? = H[q]?) → va_S A0 H0 H1 locs1 → W p l e R s m args below meth c H1 locs1 (cells + mc) (slots + ms) Q (F0 m (pc + 3) ls (.int r :: rest))) : W p l e R s m args below meth c H locs cells slots Q (F0 m pc ls st0) := by
  intro T hT X
  rcases hr T hT X with ⟨v, st₀, t, T', L, h0, X', hL, e1, e2, ⟨⟨r, u, hv, hp, hb⟩, hF⟩, st⟩ | ⟨q, st₀, t, T', L, E, ce, h0, X', hL, e1, e2, ⟨u, hp, hb, hF⟩, hce, hcv, hcl, st⟩
  · cases hv
    obtain ⟨k1, k2, k3⟩ := vx_keep h0 e1 hS hA hf hL hF
    obtain ⟨t2, a1, b1⟩ := kk r u t T'.heap (locs ++ L) e1.symm (by rw [← e2]; exact X'.warmed.alike) hp hb k1 k2 k3 T' rfl X'
    exact ⟨t2, st t2 a1, b1⟩
  · obtain ⟨k1, k2, k3⟩ := vx_keep h0 e1 hS hAX hf hL hF
    obtain ⟨t2, a1, b1⟩ := kx E ce q u t T'.heap (locs ++ L) e1.symm (by rw [← e2]; exact X'.warmed.alike) hp hb k1 k2 k3 (by rw [e1]; exact hce) hcv hcl T' rfl X'
    exact ⟨t2, st.trans a1, b1⟩
theorem vx_calll {S SX : Type} {post : Int64 → S → Prop} {px : SX → Prop} {B : S → State → Prop} {BX : String → SX → State → Prop} {AX : Nat → Prop} (hr : vx_Run p l e R s m args below meth c H locs cells slots mc ms (F0 m pc ls st0) rest (va_Ql post B A1 a) (vx_X px BX AX) free) (hS : va_S A0 H0 H locs) (hA : ∀ q, q < H.size → A1 q → A0 q) (hf : ∀ q, free q → A0 q) (hAX : ∀ q, q < H.size → AX q → A0 q)
    (kx : ∀ (E : String) (ce : Cell) (q9 : Addr) (u : SX) (t : State) (H1 : Heap) (locs1 : List Loc), t.heap = H1 → s.vm.Alike t.vm → px u → BX E u t → H.size ≤ H1.size → (∀ q : Nat, q < H.size → ¬ AX q → H1[q]? = H[q]?) → va_S A0 H0 H1 locs1 → H1[q9]? = some ce → ce.vm = .none → s.vm.findClass E = some ce.cls → vx_W p l e R s m args below meth c H1 locs1 (cells + mc) (slots + ms) Q (F0 m pc ls rest) q9)
    (kk : ∀ (r : Int64) (u : S) (t : State) (H1 : Heap) (locs1 : List Loc), t.heap = H1 → s.vm.Alike t.vm → post r u → B u t → H.size ≤ H1.size → (∀ q : Nat, q < H.size → ¬ A1 q → H1[q]? = H[q]?) → va_S A0 H0 H1 locs1 → W p l e R s m args below meth c H1 locs1 (cells + mc) (slots + ms) Q (F0 m (pc + 3) ls (.long r :: rest))) : W p l e R s m args below meth c H locs cells slots Q (F0 m pc ls st0) := by
  intro T hT X
  rcases hr T hT X with ⟨v, st₀, t, T', L, h0, X', hL, e1, e2, ⟨⟨r, u, hv, hp, hb⟩, hF⟩, st⟩ | ⟨q, st₀, t, T', L, E, ce, h0, X', hL, e1, e2, ⟨u, hp, hb, hF⟩, hce, hcv, hcl, st⟩
  · cases hv
    obtain ⟨k1, k2, k3⟩ := vx_keep h0 e1 hS hA hf hL hF
    obtain ⟨t2, a1, b1⟩ := kk r u t T'.heap (locs ++ L) e1.symm (by rw [← e2]; exact X'.warmed.alike) hp hb k1 k2 k3 T' rfl X'
    exact ⟨t2, st t2 a1, b1⟩
  · obtain ⟨k1, k2, k3⟩ := vx_keep h0 e1 hS hAX hf hL hF
    obtain ⟨t2, a1, b1⟩ := kx E ce q u t T'.heap (locs ++ L) e1.symm (by rw [← e2]; exact X'.warmed.alike) hp hb k1 k2 k3 (by rw [e1]; exact hce) hcv hcl T' rfl X'
    exact ⟨t2, st.trans a1, b1⟩
theorem vx_callf {S SX : Type} {post : UInt32 → S → Prop} {px : SX → Prop} {B : S → State → Prop} {BX : String → SX → State → Prop} {AX : Nat → Prop} (hr : vx_Run p l e R s m args below meth c H locs cells slots mc ms (F0 m pc ls st0) rest (va_Qf post B A1 a) (vx_X px BX AX) free) (hS : va_S A0 H0 H locs) (hA : ∀ q, q < H.size → A1 q → A0 q) (hf : ∀ q, free q → A0 q) (hAX : ∀ q, q < H.size → AX q → A0 q)
    (kx : ∀ (E : String) (ce : Cell) (q9 : Addr) (u : SX) (t : State) (H1 : Heap) (locs1 : List Loc), t.heap = H1 → s.vm.Alike t.vm → px u → BX E u t → H.size ≤ H1.size → (∀ q : Nat, q < H.size → ¬ AX q → H1[q]? = H[q]?) → va_S A0 H0 H1 locs1 → H1[q9]? = some ce → ce.vm = .none → s.vm.findClass E = some ce.cls → vx_W p l e R s m args below meth c H1 locs1 (cells + mc) (slots + ms) Q (F0 m pc ls rest) q9)
    (kk : ∀ (r : UInt32) (u : S) (t : State) (H1 : Heap) (locs1 : List Loc), t.heap = H1 → s.vm.Alike t.vm → post r u → B u t → H.size ≤ H1.size → (∀ q : Nat, q < H.size → ¬ A1 q → H1[q]? = H[q]?) → va_S A0 H0 H1 locs1 → W p l e R s m args below meth c H1 locs1 (cells + mc) (slots + ms) Q (F0 m (pc + 3) ls (.float r :: rest))) : W p l e R s m args below meth c H locs cells slots Q (F0 m pc ls st0) := by
  intro T hT X
  rcases hr T hT X with ⟨v, st₀, t, T', L, h0, X', hL, e1, e2, ⟨⟨r, u, hv, hp, hb⟩, hF⟩, st⟩ | ⟨q, st₀, t, T', L, E, ce, h0, X', hL, e1, e2, ⟨u, hp, hb, hF⟩, hce, hcv, hcl, st⟩
  · cases hv
    obtain ⟨k1, k2, k3⟩ := vx_keep h0 e1 hS hA hf hL hF
    obtain ⟨t2, a1, b1⟩ := kk r u t T'.heap (locs ++ L) e1.symm (by rw [← e2]; exact X'.warmed.alike) hp hb k1 k2 k3 T' rfl X'
    exact ⟨t2, st t2 a1, b1⟩
  · obtain ⟨k1, k2, k3⟩ := vx_keep h0 e1 hS hAX hf hL hF
    obtain ⟨t2, a1, b1⟩ := kx E ce q u t T'.heap (locs ++ L) e1.symm (by rw [← e2]; exact X'.warmed.alike) hp hb k1 k2 k3 (by rw [e1]; exact hce) hcv hcl T' rfl X'
    exact ⟨t2, st.trans a1, b1⟩
theorem vx_calld {S SX : Type} {post : UInt64 → S → Prop} {px : SX → Prop} {B : S → State → Prop} {BX : String → SX → State → Prop} {AX : Nat → Prop} (hr : vx_Run p l e R s m args below meth c H locs cells slots mc ms (F0 m pc ls st0) rest (va_Qd post B A1 a) (vx_X px BX AX) free) (hS : va_S A0 H0 H locs) (hA : ∀ q, q < H.size → A1 q → A0 q) (hf : ∀ q, free q → A0 q) (hAX : ∀ q, q < H.size → AX q → A0 q)
    (kx : ∀ (E : String) (ce : Cell) (q9 : Addr) (u : SX) (t : State) (H1 : Heap) (locs1 : List Loc), t.heap = H1 → s.vm.Alike t.vm → px u → BX E u t → H.size ≤ H1.size → (∀ q : Nat, q < H.size → ¬ AX q → H1[q]? = H[q]?) → va_S A0 H0 H1 locs1 → H1[q9]? = some ce → ce.vm = .none → s.vm.findClass E = some ce.cls → vx_W p l e R s m args below meth c H1 locs1 (cells + mc) (slots + ms) Q (F0 m pc ls rest) q9)
    (kk : ∀ (r : UInt64) (u : S) (t : State) (H1 : Heap) (locs1 : List Loc), t.heap = H1 → s.vm.Alike t.vm → post r u → B u t → H.size ≤ H1.size → (∀ q : Nat, q < H.size → ¬ A1 q → H1[q]? = H[q]?) → va_S A0 H0 H1 locs1 → W p l e R s m args below meth c H1 locs1 (cells + mc) (slots + ms) Q (F0 m (pc + 3) ls (.double r :: rest))) : W p l e R s m args below meth c H locs cells slots Q (F0 m pc ls st0) := by
  intro T hT X
  rcases hr T hT X with ⟨v, st₀, t, T', L, h0, X', hL, e1, e2, ⟨⟨r, u, hv, hp, hb⟩, hF⟩, st⟩ | ⟨q, st₀, t, T', L, E, ce, h0, X', hL, e1, e2, ⟨u, hp, hb, hF⟩, hce, hcv, hcl, st⟩
  · cases hv
    obtain ⟨k1, k2, k3⟩ := vx_keep h0 e1 hS hA hf hL hF
    obtain ⟨t2, a1, b1⟩ := kk r u t T'.heap (locs ++ L) e1.symm (by rw [← e2]; exact X'.warmed.alike) hp hb k1 k2 k3 T' rfl X'
    exact ⟨t2, st t2 a1, b1⟩
  · obtain ⟨k1, k2, k3⟩ := vx_keep h0 e1 hS hAX hf hL hF
    obtain ⟨t2, a1, b1⟩ := kx E ce q u t T'.heap (locs ++ L) e1.symm (by rw [← e2]; exact X'.warmed.alike) hp hb k1 k2 k3 (by rw [e1]; exact hce) hcv hcl T' rfl X'
    exact ⟨t2, st.trans a1, b1⟩
theorem vx_callv {S SX : Type} {post : S → Prop} {px : SX → Prop} {B : S → State → Prop} {BX : String → SX → State → Prop} {AX : Nat → Prop} (hr : vx_Run p l e R s m args below meth c H locs cells slots mc ms (F0 m pc ls st0) rest (va_Qv post B A1 a) (vx_X px BX AX) free) (hS : va_S A0 H0 H locs) (hA : ∀ q, q < H.size → A1 q → A0 q) (hf : ∀ q, free q → A0 q) (hAX : ∀ q, q < H.size → AX q → A0 q)
    (kx : ∀ (E : String) (ce : Cell) (q9 : Addr) (u : SX) (t : State) (H1 : Heap) (locs1 : List Loc), t.heap = H1 → s.vm.Alike t.vm → px u → BX E u t → H.size ≤ H1.size → (∀ q : Nat, q < H.size → ¬ AX q → H1[q]? = H[q]?) → va_S A0 H0 H1 locs1 → H1[q9]? = some ce → ce.vm = .none → s.vm.findClass E = some ce.cls → vx_W p l e R s m args below meth c H1 locs1 (cells + mc) (slots + ms) Q (F0 m pc ls rest) q9)
    (kk : ∀ (u : S) (t : State) (H1 : Heap) (locs1 : List Loc), t.heap = H1 → s.vm.Alike t.vm → post u → B u t → H.size ≤ H1.size → (∀ q : Nat, q < H.size → ¬ A1 q → H1[q]? = H[q]?) → va_S A0 H0 H1 locs1 → W p l e R s m args below meth c H1 locs1 (cells + mc) (slots + ms) Q (F0 m (pc + 3) ls (rest))) : W p l e R s m args below meth c H locs cells slots Q (F0 m pc ls st0) := by
  intro T hT X
  rcases hr T hT X with ⟨v, st₀, t, T', L, h0, X', hL, e1, e2, ⟨⟨u, hv, hp, hb⟩, hF⟩, st⟩ | ⟨q, st₀, t, T', L, E, ce, h0, X', hL, e1, e2, ⟨u, hp, hb, hF⟩, hce, hcv, hcl, st⟩
  · cases hv
    obtain ⟨k1, k2, k3⟩ := vx_keep h0 e1 hS hA hf hL hF
    obtain ⟨t2, a1, b1⟩ := kk u t T'.heap (locs ++ L) e1.symm (by rw [← e2]; exact X'.warmed.alike) hp hb k1 k2 k3 T' rfl X'
    exact ⟨t2, st t2 a1, b1⟩
  · obtain ⟨k1, k2, k3⟩ := vx_keep h0 e1 hS hAX hf hL hF
    obtain ⟨t2, a1, b1⟩ := kx E ce q u t T'.heap (locs ++ L) e1.symm (by rw [← e2]; exact X'.warmed.alike) hp hb k1 k2 k3 (by rw [e1]; exact hce) hcv hcl T' rfl X'
    exact ⟨t2, st.trans a1, b1⟩
/-- caught by the row x of this method's table; the rows ahead don't take it -/
theorem vx_catch {own name : String} {E : String} {ce : Cell} {q : Addr} (hown : s.vm.findClass own = some m.cls) (pre : List ExceptionTableEntry) (x : ExceptionTableEntry) (suf : List ExceptionTableEntry) (hsplit : c.exceptionTable.toList = pre ++ x :: suf)
    (hpass : ∀ z ∈ pre, covers z pc = false ∨ (z.catchType ≠ 0 ∧ ∃ nm : String, (Cond.classLink own z.catchType nm).before args s = true ∧ va_Nc E nm s)) (hx : covers x pc = true) (h0 : x.catchType ≠ 0)
    (hlink : (Cond.classLink own x.catchType name).before args s = true) (hcast : (Cond.castable E name).before args s = true) (hcell : H[q]? = some ce) (hv : ce.vm = .none) (hcl : s.vm.findClass E = some ce.cls)
    (kk : W p l e R s m args below meth c H locs cells slots Q (F0 m x.handlerPc ls [.ref q])) : vx_W p l e R s m args below meth c H locs cells slots Q (F0 m pc ls rest) q := by
  intro T hT X
  have hpl : e.platform.magicAccessors = ({} : Platform).magicAccessors := by rw [X.admits.platform]
  obtain ⟨c3, c4, hc3, hc4, hasg⟩ := Cond.castable_spec hcast
  cases Option.some.inj (hc3.symm.trans hcl)
  obtain ⟨c5, hc5, hcl5⟩ := Cond.classLink_spec hown hlink e.platform hpl
  cases Option.some.inj (hc4.symm.trans hc5)
  obtain ⟨vm', X', st⟩ := X.thenCaughtThrough q (g := F0 m pc ls rest) rfl (Steps.refl _) (by rw [hT]; exact hcell) (by rw [hv]; rfl) (by obtain ⟨k9, h9, -⟩ := Vm.findClass_spec hcl; exact ⟨k9, h9⟩) pre x suf hsplit
    (fun z hz => by
      rcases hpass z hz with h | ⟨hz0, nm, hl1, hn1⟩
      · exact Or.inl h
      · obtain ⟨c6, hc6, hcl6⟩ := Cond.classLink_spec hown hl1 e.platform hpl
        obtain ⟨a8, b8, h1, h2, h3⟩ := hn1
        cases Option.some.inj (h1.symm.trans hcl)
        cases Option.some.inj (h2.symm.trans hc6)
        exact Or.inr ⟨hz0, _, hcl6, h3⟩) hx (Or.inr ⟨h0, c4, hcl5, hasg⟩)
  obtain ⟨t, a1, b1⟩ := kk (T.setVm vm') hT X'
  exact ⟨t, st.trans a1, b1⟩
end Rows
section Ends
variable {p : Program} {l : Launch} {e : Env} {R : Room} {s : State} {m : MethodId} {args : Array Value} {below : List Frame} {meth : Method} {c : Code} {H : Heap} {locs : List Loc} {cells slots : Nat} {Q : State → Prop}
variable {mc ms : Nat} {free : Addr → Prop} {A0 A1 : Nat → Prop} {H0 : Heap} {a : Array Value} {ls : Array Slot} {st0 rest : List Value}
variable {Qc : Array Value → State → Outcome → State → Prop} {XC : String → State → State → Prop}
/-- what a body that may throw owes at its end -/
def vx_MQ (below : List Frame) (Qc : Array Value → State → Outcome → State → Prop) (XC : String → State → State → Prop) (a : Array Value) (s : State) (mc ms : Nat) (free : Addr → Prop) : State → Prop := fun t =>
  ∃ o, t.status = .running ∧ Ended t below o ∧ vx_Q Qc XC mc ms free a s o t
theorem vx_ret {g : JFrame} {mc ms : Nat} (k : W p l e R s m args below meth c H locs cells slots (MQ below Qc args s mc ms free) g) : W p l e R s m args below meth c H locs cells slots (vx_MQ below Qc XC args s mc ms free) g := by
  intro T hT X
  obtain ⟨t, a1, o, b1, b2, b3, b4⟩ := k T hT X
  exact ⟨t, a1, o, b1, b2, Or.inl ⟨b3, b4⟩⟩
/-- not caught here: it goes on to the caller -/
theorem vx_widen {g : JFrame} {q : Addr} {k n : Nat} (h1 : cells ≤ k) (h2 : slots ≤ n) (kk : vx_W p l e R s m args below meth c H locs k n Q g q) : vx_W p l e R s m args below meth c H locs cells slots Q g q := fun T hT X => kk T hT (stand_widen X h1 h2)
theorem vx_out {pc : Nat} {E : String} {ce : Cell} {q : Addr} {mc ms : Nat} (hout : ∀ x ∈ c.exceptionTable.toList, covers x pc = false) (hlocks : meth.locks = false) (hcell : H[q]? = some ce) (hv : ce.vm = .none) (hcl : s.vm.findClass E = some ce.cls)
    (hx : ∀ t : State, t.heap = H → s.vm.Alike t.vm → XC E s t) (hf : ∀ z ∈ locs, free z.base) (hc : cells ≤ mc) (hs : slots ≤ ms) :
    vx_W p l e R s m args below meth c H locs cells slots (vx_MQ below Qc XC args s mc ms free) (F0 m pc ls rest) q := by
  intro T hT X
  obtain ⟨st1, hrun, hend, hW, hsm⟩ := X.leaveThrown q (g := F0 m pc ls rest) rfl rfl rfl hout hlocks
  have hcell9 : (T.setFrames (.throwing q :: below)).heap[q]? = some ce := by
    show T.heap[q]? = some ce
    rw [hT]; exact hcell
  exact ⟨_, st1, .threw q, hrun, hend, Or.inr ⟨q, rfl, E, ce, locs, hx _ hT hW.alike, hcell9, hv, hcl, hW, hsm.mono hc hs, hf⟩⟩
theorem vx_frame {U : State} {k n : Nat} (h : s.sameButNew ({ U with vm := s.vm } : State) locs k n) : s.heap.size ≤ U.heap.size ∧ ∀ q : Nat, q < s.heap.size → (∀ z ∈ locs, z.base ≠ q) → U.heap[q]? = s.heap[q]? := by
  obtain ⟨-, h2, -, -, -, h6⟩ := h
  refine ⟨h2, fun q hq hz => ?_⟩
  obtain ⟨c9, e1, e2, e3, e4⟩ := h6 q _ (Array.getElem?_eq_getElem hq)
  have hs : c9.slots = (s.heap[q]).slots := Array.ext_getElem? fun i => e4 i fun hm => hz _ hm rfl
  have h9 : c9 = s.heap[q] := by
    rw [hs] at e2
    exact e2
  have e5 : U.heap[q]? = some c9 := e1
  rw [e5, h9, Array.getElem?_eq_getElem hq]
/-- the words of a throw but the four that speak of the heap -/
def vx_no (w : Cond) : Bool := decide (w ≠ .isRef (.static Bundle.tN "UNASSIGNED_STACK" Bundle.steD)) && decide (w ≠ .isRef (.static Bundle.tN "SUPPRESSED_SENTINEL" Bundle.listD)) && decide (w ≠ .laysStatic Bundle.tN "UNASSIGNED_STACK" Bundle.steD) && decide (w ≠ .laysStatic Bundle.tN "SUPPRESSED_SENTINEL" Bundle.listD)
def vx_at0 (own : String) (ic : Nat) (X : String) (names : List String) : List Cond := (Bundle.ownAtoms0 own ic X names).filter vx_no
def vx_atS (own : String) (ic : Nat) (X : String) (names : List String) : List Cond := (Bundle.ownAtoms own ic X names).filter vx_no
/-- a word that the tables alone decide, or a good one -/
def vx_ot (w : Cond) : Bool := w.onTables || goodWord w
theorem vx_ot_at {args a' : Array Value} {s U : State} {w : Cond} (hW : s.WarmedH U.vm) (hvm : s.vm = U.vm) (hg : vx_ot w = true) (h : w.before args s = true) : w.before a' U = true := by
  simp only [vx_ot, Bool.or_eq_true] at hg
  rcases hg with hg | hg
  · exact va_tabs hg hvm h
  · exact word_at hW (good_of_word hg) h
/-- a list's words: the good ones out of the method's own list, the others by premises of their own -/
theorem vx_hat {args : Array Value} {s : State} {L B : List Cond} (h1 : ∀ w ∈ L.filter goodWord, w.before args s = true) (h2 : ∀ w ∈ L.filter (fun w => !goodWord w), w ∈ B) (h3 : ∀ w ∈ B, w.before args s = true) : ∀ w ∈ L, w.before args s = true := by
  intro w hw
  by_cases g : goodWord w = true
  · exact h1 w (List.mem_filter.mpr ⟨hw, g⟩)
  · refine h3 w (h2 w (List.mem_filter.mpr ⟨hw, ?_⟩))
    show (!goodWord w) = true
    cases hgw : goodWord w
    · rfl
    · exact absurd hgw g
theorem vx_c {args : Array Value} {s : State} {w : Cond} {B : List Cond} (h : w.before args s = true) (t : ∀ w ∈ B, w.before args s = true) : ∀ w' ∈ w :: B, w'.before args s = true := fun w' h' => (List.mem_cons.mp h').elim (fun e => by rw [e]; exact h) (t w')
theorem vx_n {args : Array Value} {s : State} : ∀ w ∈ ([] : List Cond), w.before args s = true := fun _ h => nomatch h
theorem vx_own {args : Array Value} {s : State} {L : List Cond} (h1 : ∀ w ∈ L.filter vx_no, w.before args s = true)
    (hU : (Cond.isRef (.static Bundle.tN "UNASSIGNED_STACK" Bundle.steD)).before args s = true) (hN : (Cond.isRef (.static Bundle.tN "SUPPRESSED_SENTINEL" Bundle.listD)).before args s = true)
    (lU : (Cond.laysStatic Bundle.tN "UNASSIGNED_STACK" Bundle.steD).before args s = true) (lN : (Cond.laysStatic Bundle.tN "SUPPRESSED_SENTINEL" Bundle.listD).before args s = true) : ∀ w ∈ L, w.before args s = true := by
  intro w hw
  by_cases e1 : w = .isRef (.static Bundle.tN "UNASSIGNED_STACK" Bundle.steD)
  · rw [e1]; exact hU
  · by_cases e2 : w = .isRef (.static Bundle.tN "SUPPRESSED_SENTINEL" Bundle.listD)
    · rw [e2]; exact hN
    · by_cases e3 : w = .laysStatic Bundle.tN "UNASSIGNED_STACK" Bundle.steD
      · rw [e3]; exact lU
      · by_cases e4 : w = .laysStatic Bundle.tN "SUPPRESSED_SENTINEL" Bundle.listD
        · rw [e4]; exact lN
        · exact h1 w (List.mem_filter.mpr ⟨hw, by unfold vx_no; rw [decide_eq_true e1, decide_eq_true e2, decide_eq_true e3, decide_eq_true e4]; rfl⟩)
/-- where a static field lies, its class's statics cell in H -/
def vx_L (C n d : String) (A : Nat → Prop) (U : State) (H : Heap) : Prop := ∃ (c : ClassId) (k : Class) (i : Nat) (f : Field) (a : Nat) (cell : Cell), U.vm.findClass C = some c ∧ U.fieldFound? C n d = some (c, k, i, f) ∧ f.isStatic = true ∧ k.statics = some a ∧ H[a]? = some cell ∧ cell.vm.isStatics = true ∧ cell.cls = c ∧ f.slot < cell.slots.size ∧ k.staticTypes[f.slot]? = some f.type ∧ ¬ A a
theorem vx_L.moved {C n d : String} {A : Nat → Prop} {u U : State} {H : Heap} (hvm : u.vm.Alike U.vm) (h : vx_L C n d A u H) : vx_L C n d A U H := by
  obtain ⟨c, k, i, f, a, cell, h1, h2, h3, h4, h5, h6, h7, h8, h9, h10⟩ := h
  obtain ⟨k', hi', he⟩ := State.fieldFound?_setVm hvm h2
  exact ⟨c, k', i, f, a, cell, by rw [hvm.findClass]; exact h1, hi', h3, by rw [he]; exact h4, h5, h6, h7, h8, by rw [he]; exact h9, h10⟩
theorem vx_L.kept {C n d : String} {A : Nat → Prop} {U : State} {H H1 : Heap} (h : vx_L C n d A U H) (hq : ∀ a : Nat, a < H.size → ¬ A a → H1[a]? = H[a]?) : vx_L C n d A U H1 := by
  obtain ⟨c, k, i, f, a, cell, h1, h2, h3, h4, h5, h6, h7, h8, h9, h10⟩ := h
  exact ⟨c, k, i, f, a, cell, h1, h2, h3, h4, by rw [hq a (Array.getElem?_eq_some_iff.mp h5).1 h10]; exact h5, h6, h7, h8, h9, h10⟩
theorem vx_L.narrow {C n d : String} {A B : Nat → Prop} {U : State} {H : Heap} (h : vx_L C n d A U H) (hAB : ∀ q, B q → A q) : vx_L C n d B U H := by
  obtain ⟨c, k, i, f, a, cell, h1, h2, h3, h4, h5, h6, h7, h8, h9, h10⟩ := h
  exact ⟨c, k, i, f, a, cell, h1, h2, h3, h4, h5, h6, h7, h8, h9, fun z => h10 (hAB _ z)⟩
theorem vx_L.word {C n d : String} {A : Nat → Prop} {s : State} {args : Array Value} (h : vx_L C n d A s s.heap) : (Cond.laysStatic C n d).before args s = true := by
  obtain ⟨c, k, i, f, a, cell, h1, h2, h3, h4, h5, h6, h7, h8, h9, -⟩ := h
  show (Cond.laysStatic C n d).holds args s none s [] = true
  exact Cond.laysStatic_of h1 h2 h3 h4 h5 h6 h7 h8 h9
/-- .. and what it holds: null or some reference -/
def vx_Zq (C n d : String) (A : Nat → Prop) (U : State) (H : Heap) : Prop := va_Zq C n d A U H ∧ vx_L C n d A U H
theorem vx_Zq.moved {C n d : String} {A : Nat → Prop} {u U : State} {H : Heap} (hvm : u.vm.Alike U.vm) (h : vx_Zq C n d A u H) : vx_Zq C n d A U H := ⟨va_Zq.moved hvm h.1, vx_L.moved hvm h.2⟩
theorem vx_Zq.kept {C n d : String} {A : Nat → Prop} {U : State} {H H1 : Heap} (h : vx_Zq C n d A U H) (hq : ∀ a : Nat, a < H.size → ¬ A a → H1[a]? = H[a]?) : vx_Zq C n d A U H1 := ⟨va_Zq.kept h.1 hq, vx_L.kept h.2 hq⟩
theorem vx_Zq.narrow {C n d : String} {A B : Nat → Prop} {U : State} {H : Heap} (h : vx_Zq C n d A U H) (hAB : ∀ q, B q → A q) : vx_Zq C n d B U H := ⟨va_Zq.narrow h.1 hAB, vx_L.narrow h.2 hAB⟩
theorem vx_Zqof {args : Array Value} {s : State} {C n d : String} {A : Nat → Prop} (hl : (Cond.laysStatic C n d).before args s = true) (hini : (Cond.initialized C).before args s = true) (h : (Cond.isRef (.static C n d)).before args s = true) (hA : ∀ a : Nat, a < s.heap.size → ¬ A a) : vx_Zq C n d A s s.heap := by
  refine ⟨va_Zqof hl hini h hA, ?_⟩
  obtain ⟨c, k, i, f, a, cell, h1, h2, h3, h4, h5, h6, h7, h8, h9⟩ := Cond.laysStatic_spec hl
  exact ⟨c, k, i, f, a, cell, h1, h2, h3, h4, h5, h6, h7, h8, h9, hA a (Array.getElem?_eq_some_iff.mp h5).1⟩
theorem vx_isRef {C n d : String} {v : Value} {A : Nat → Prop} {s : State} {args : Array Value} (h : va_Z C n d v A s s.heap) (hv : v.isRef = true) : (Cond.isRef (.static C n d)).before args s = true := by
  obtain ⟨cf, kf, fi, f, a, cell, h1, h2, h3, h4, h5, h6, h7, -⟩ := h
  have he : (Term.static C n d).eval args s none [] s = some v := by
    simp [Term.eval, State.fieldNamed?, h1, h2, h4, h5, h6, h7]
  simp only [Cond.before, Cond.holds, Cond.value, he]
  cases v <;> simp_all [Value.isRef]
theorem vx_isRefq {C n d : String} {A : Nat → Prop} {s : State} {args : Array Value} (h : va_Zq C n d A s s.heap) : (Cond.isRef (.static C n d)).before args s = true := by
  rcases h with h | ⟨t, h⟩
  · exact vx_isRef h rfl
  · exact vx_isRef h rfl
/-- the same frame, seen from here: as if the method were called anew in this heap -/
theorem vx_rebase {T : State} (X : Stand p l e R s m args below meth c T locs cells slots) {R' : Room} (hf : R'.frames ≤ R.frames) (hl : R'.locals ≤ R.locals) (hc : cells + R'.cells ≤ R.cells) (hs : slots + R'.slots ≤ R.slots) :
    Stand p l e R' ((T.setVm s.vm).setFrames (.invoking m args :: below)) m args below meth c T [] 0 0 := by
  have htop : (T.setVm s.vm).topJava?.isSome := X.here.top
  have hF : ((T.setVm s.vm).setFrames (.invoking m args :: below)).frames = .invoking m args :: below := State.frames_setFrames _ (State.cur_lt_of_top htop)
  obtain ⟨g₀, hg0⟩ := Option.isSome_iff_exists.mp htop
  obtain ⟨r, hr⟩ := State.topJava?_eq_some.mp hg0
  have hl9 : e.platform.stackLimits (T.setVm s.vm).me = e.platform.stackLimits s.me := X.limits
  have hb9 : (T.setVm s.vm).me.stackBytes = s.me.stackBytes := X.bytes
  refine ⟨X.admits, X.cas, X.clock, hF, ?_, X.hears, X.method, X.code, X.here, X.tail, X.warmed, ?_, ?_, ?_⟩
  · have h := X.room
    have hU : ((T.setVm s.vm).setFrames (.invoking m args :: below)).localsInUse = s.localsInUse := by
      rw [State.localsInUse_invoking hF (meth := meth) (c := c) X.method X.code, State.localsInUse_invoking X.frames X.method X.code]
    simp only [State.hasRoom, Bool.and_eq_true, decide_eq_true_eq] at h ⊢
    obtain ⟨⟨⟨⟨h1, h2, h3, h4, h5, h6⟩, h7⟩, h8⟩, h9⟩ := h
    rw [X.frames, List.length_cons] at h2 h3
    have q1 := X.heapSize
    have q2 := X.used
    simp only [hF, hU, List.length_cons, State.stackLimits_setFrames, State.stackBytes_setFrames, hl9, hb9]
    refine ⟨⟨⟨⟨by omega, by omega, by omega, by omega, by omega, h6⟩, ?_⟩, ?_⟩, X.book⟩
    · show T.heap.size + R'.cells ≤ e.platform.maxCells
      omega
    · show T.slotsUsed + R'.slots ≤ e.platform.maxSlots
      omega
  · rw [State.stackLimits_setFrames]; rfl
  · rw [State.stackBytes_setFrames]; rfl
  · refine ⟨?_, Nat.le_refl _, Nat.le_refl _, ?_, ?_, fun a c9 h9 => ⟨c9, h9, rfl, rfl, fun _ _ => rfl⟩⟩
    · obtain ⟨t, ht, -⟩ := State.frames_cons hr
      show T.setVm s.vm = { ((T.setVm s.vm).setFrames (.invoking m args :: below)).setFrames (T.setVm s.vm).frames with heap := T.heap, slotsUsed := T.slotsUsed }
      rw [State.setFrames_setFrames, State.setFrames_self ht]
      rfl
    · show T.slotsUsed = T.slotsUsed + ((T.heap.toList.drop T.heap.size).map (·.slots.size)).sum
      rw [List.drop_eq_nil_of_le (Nat.le_of_eq Array.length_toList)]
      rfl
    · show ((T.heap.toList.drop T.heap.size).map (·.slots.size)).sum ≤ 0
      rw [List.drop_eq_nil_of_le (Nat.le_of_eq Array.length_toList)]
      exact Nat.le_refl _
/-- 'throw new E()': new; dup; invokespecial; athrow -/
theorem vx_throw0 {cc : ByteArray} {pc : Nat} (hexec : p.tables.exec = Jvm.exec) (hb : c.code = cc) (hl : l.stackTraces = false) {own cls : String} {names : List String} {ik ic mc ms : Nat} {A : Nat → Prop}
    (hown : s.vm.findClass own = some m.cls) (hcls : Bundle.fit cls = true) (hnames : ∀ n ∈ names, Bundle.fit n = true)
    (hk : (Cond.classLink own ik cls).before args s = true) (hini : (Cond.initialized cls).before args s = true) (hat : ∀ w ∈ vx_at0 own ic cls names, w.before args s = true)
    (hgood : ∀ w ∈ Cond.classLink own ik cls :: Cond.initialized cls :: vx_at0 own ic cls names, vx_ot w = true)
    (hU : vx_Zq Bundle.tN "UNASSIGNED_STACK" Bundle.steD A s s.heap) (hN : vx_Zq Bundle.tN "SUPPRESSED_SENTINEL" Bundle.listD A s s.heap) (hS : va_S A s.heap H locs) (hsize : ls.size = c.maxLocals)
    (d0 : decode cc pc = .ok (.new ik, 3)) (d3 : decode cc (pc + 3) = .ok (.dup, 1)) (d4 : decode cc (pc + 4) = .ok (.invokespecial ic, 3)) (d7 : decode cc (pc + 7) = .ok (.athrow, 1))
    (hout : ∀ x ∈ c.exceptionTable.toList, covers x (pc + 7) = false)
    (hRframes : names.length + 3 < R.frames) (hRlocals : (rest.map fun v => v.category).sum + (13 * (names.length + 1) + 42) ≤ R.locals) (hRcells : cells + 1 ≤ R.cells) (hRslots : slots + 6 ≤ R.slots) (hlocks : meth.locks = false)
    (hx : ∀ t : State, s.vm.Alike t.vm → H.size ≤ t.heap.size → (∀ q : Nat, q < H.size → t.heap[q]? = H[q]?) → XC cls s t)
    (hf : ∀ z ∈ locs, free z.base) (hc : cells + 1 ≤ mc) (hs : slots + 6 ≤ ms) :
    W p l e R s m args below meth c H locs cells slots (vx_MQ below Qc XC args s mc ms free) (F0 m pc ls rest) := by
  intro T hT X
  have htr : e.platform.stackTraces = false := (show e.platform.stackTraces = l.stackTraces by rw [X.admits.platform]).trans hl
  have Y := vx_rebase X (R' := { frames := R.frames, locals := R.locals, cells := 1, slots := 6 }) (Nat.le_refl _) (Nat.le_refl _) hRcells hRslots
  obtain ⟨s', hA⟩ : ∃ z, z = (T.setVm s.vm).setFrames (.invoking m args :: below) := ⟨_, rfl⟩
  rw [← hA] at Y
  have hvm : s'.vm = s.vm := by rw [hA]; rfl
  have hhp : s'.heap = H := by rw [hA]; exact hT
  have hW0 : s.WarmedH s'.vm := by rw [hvm]; exact State.WarmedH.refl s
  have hat' : ∀ w ∈ vx_at0 own ic cls names, w.before args s' = true := fun w hw => vx_ot_at hW0 hvm.symm (hgood w (List.mem_cons_of_mem _ (List.mem_cons_of_mem _ hw))) (hat w hw)
  have hk' : (Cond.classLink own ik cls).before args s' = true := vx_ot_at hW0 hvm.symm (hgood _ List.mem_cons_self) hk
  have hini' : (Cond.initialized cls).before args s' = true := vx_ot_at hW0 hvm.symm (hgood _ (List.mem_cons_of_mem _ List.mem_cons_self)) hini
  have hU' : vx_Zq Bundle.tN "UNASSIGNED_STACK" Bundle.steD A s' s'.heap := by rw [hhp]; exact vx_Zq.moved hW0.alike (hU.kept hS.2.1)
  have hN' : vx_Zq Bundle.tN "SUPPRESSED_SENTINEL" Bundle.listD A s' s'.heap := by rw [hhp]; exact vx_Zq.moved hW0.alike (hN.kept hS.2.1)
  have h : ∀ w ∈ Bundle.ownAtoms0 own ic cls names, w.before args s' = true := vx_own hat' (vx_isRefq hU'.1) (vx_isRefq hN'.1) hU'.2.word hN'.2.word
  have hown' : s'.vm.findClass own = some m.cls := by rw [hvm]; exact hown
  have hins : (Cond.instantiable cls 6).before args s' = true := h _ (by simp [Bundle.ownAtoms0])
  obtain ⟨vm₁, cX, kX, hfX, hkX, -, -, X₁, st1⟩ := Y.newCold hexec (own := own) (C := cls) (index := ik) (n := 6) hown' hk' hins hini'
    (g := F0 m pc ls rest) rfl (by rw [hb]; exact d0) (Nat.le_refl _) (Nat.le_refl _)
  generalize hT1 : (T.setVm vm₁).pushCell { cls := cX, slots := kX.instanceTypes.map defaultValue, vm := .none } = T1 at X₁ st1
  have hcat : (Value.ref T.heap.size).category = 1 := rfl
  have hcellA : T1.heap[T.heap.size]? = some (freshCell cX kX) := by rw [← hT1]; exact State.heap_pushCell_size _ _
  have d3' : decode c.code (pc + 3) = .ok (.dup, 1) := by rw [hb]; exact d3
  obtain ⟨U, hsteps, hrun, hend, hW, hsame, ce, hce, hO⟩ := X₁.ctorThrow0 hexec htr (own := own) (cls := cls) (names := names) (ic := ic) hown' hcls hnames h (fun x hx => nomatch hx) hfX hkX hcellA (by rw [hhp, hT]; exact Nat.le_refl _)
    (g := { method := m, pc := pc + 4, locals := ls, stack := .ref T.heap.size :: .ref T.heap.size :: rest, locked := none }) rfl hsize rfl rfl (rest := rest) rfl
    (by rw [hb]; exact d4) (by rw [hb]; exact d7) hout hRframes (by simp only [List.map_cons, List.sum_cons, hcat]; omega) hlocks
  obtain ⟨f1, f2⟩ := vx_frame hsame
  rw [hhp] at f1 f2
  have hWs : s.WarmedH U.vm := State.WarmedH.trans hW0 hW
  have hcl : s.vm.findClass cls = some ce.cls := by
    have h9 := hO.cls
    rw [hvm] at h9
    exact h9
  have hall : s.sameButNew ({ U with vm := s.vm } : State) locs mc ms := by
    subst hA
    obtain ⟨e1, e2⟩ := hsame
    rw [State.setFrames_setFrames] at e1
    have h2 : (T.setVm s.vm).sameButNew ({ U with vm := s.vm } : State) [] (0 + 1) (0 + 6) := ⟨e1, e2⟩
    have h3 := X.same.trans h2
    rw [List.append_nil] at h3
    exact h3.mono hc hs
  refine ⟨U, ?_, .threw T.heap.size, hrun, hend, Or.inr ⟨T.heap.size, rfl, cls, ce, locs, hx U hWs.alike f1 (fun q hq => f2 q hq (fun z hz => nomatch hz)), hce, hO.vm, hcl, hWs, hall, hf⟩⟩
  refine st1 _ ?_
  show Steps p.tables e below (T1.setTop { method := m, pc := pc + 3, locals := ls, stack := .ref T.heap.size :: rest, locked := none }) _
  jvm_step X₁.here [X₁.here.top, hexec, d3', Value.category]
  exact hsteps
/-- 'throw new E("text")': new; dup; ldc; invokespecial; athrow -/
theorem vx_throwS {cc : ByteArray} {pc : Nat} (hexec : p.tables.exec = Jvm.exec) (hb : c.code = cc) (hl : l.stackTraces = false) {own cls text : String} {names : List String} {ik is ic mc ms sa : Nat} {A : Nat → Prop}
    (hown : s.vm.findClass own = some m.cls) (hcls : Bundle.fit cls = true) (hnames : ∀ n ∈ names, Bundle.fit n = true)
    (hk : (Cond.classLink own ik cls).before args s = true) (hini : (Cond.initialized cls).before args s = true) (hstr : vk_R own is text sa s) (hat : ∀ w ∈ vx_atS own ic cls names, w.before args s = true)
    (hgood : ∀ w ∈ Cond.classLink own ik cls :: Cond.initialized cls :: vx_atS own ic cls names, vx_ot w = true)
    (hU : vx_Zq Bundle.tN "UNASSIGNED_STACK" Bundle.steD A s s.heap) (hN : vx_Zq Bundle.tN "SUPPRESSED_SENTINEL" Bundle.listD A s s.heap) (hS : va_S A s.heap H locs) (hsize : ls.size = c.maxLocals)
    (d0 : decode cc pc = .ok (.new ik, 3)) (d3 : decode cc (pc + 3) = .ok (.dup, 1)) (d4 : decode cc (pc + 4) = .ok (.ldc is, 2)) (d6 : decode cc (pc + 6) = .ok (.invokespecial ic, 3)) (d9 : decode cc (pc + 9) = .ok (.athrow, 1))
    (hout : ∀ x ∈ c.exceptionTable.toList, covers x (pc + 9) = false)
    (hRframes : names.length + 3 < R.frames) (hRlocals : (rest.map fun v => v.category).sum + (13 * (names.length + 1) + 43) ≤ R.locals) (hRcells : cells + 1 ≤ R.cells) (hRslots : slots + 6 ≤ R.slots) (hlocks : meth.locks = false)
    (hx : ∀ t : State, s.vm.Alike t.vm → H.size ≤ t.heap.size → (∀ q : Nat, q < H.size → t.heap[q]? = H[q]?) → XC cls s t)
    (hf : ∀ z ∈ locs, free z.base) (hc : cells + 1 ≤ mc) (hs : slots + 6 ≤ ms) :
    W p l e R s m args below meth c H locs cells slots (vx_MQ below Qc XC args s mc ms free) (F0 m pc ls rest) := by
  intro T hT X
  have htr : e.platform.stackTraces = false := (show e.platform.stackTraces = l.stackTraces by rw [X.admits.platform]).trans hl
  have Y := vx_rebase X (R' := { frames := R.frames, locals := R.locals, cells := 1, slots := 6 }) (Nat.le_refl _) (Nat.le_refl _) hRcells hRslots
  obtain ⟨s', hA⟩ : ∃ z, z = (T.setVm s.vm).setFrames (.invoking m args :: below) := ⟨_, rfl⟩
  rw [← hA] at Y
  have hvm : s'.vm = s.vm := by rw [hA]; rfl
  have hhp : s'.heap = H := by rw [hA]; exact hT
  have hW0 : s.WarmedH s'.vm := by rw [hvm]; exact State.WarmedH.refl s
  have hat' : ∀ w ∈ vx_atS own ic cls names, w.before args s' = true := fun w hw => vx_ot_at hW0 hvm.symm (hgood w (List.mem_cons_of_mem _ (List.mem_cons_of_mem _ hw))) (hat w hw)
  have hk' : (Cond.classLink own ik cls).before args s' = true := vx_ot_at hW0 hvm.symm (hgood _ List.mem_cons_self) hk
  have hini' : (Cond.initialized cls).before args s' = true := vx_ot_at hW0 hvm.symm (hgood _ (List.mem_cons_of_mem _ List.mem_cons_self)) hini
  have hU' : vx_Zq Bundle.tN "UNASSIGNED_STACK" Bundle.steD A s' s'.heap := by rw [hhp]; exact vx_Zq.moved hW0.alike (hU.kept hS.2.1)
  have hN' : vx_Zq Bundle.tN "SUPPRESSED_SENTINEL" Bundle.listD A s' s'.heap := by rw [hhp]; exact vx_Zq.moved hW0.alike (hN.kept hS.2.1)
  have h : ∀ w ∈ Bundle.ownAtoms own ic cls names, w.before args s' = true := vx_own hat' (vx_isRefq hU'.1) (vx_isRefq hN'.1) hU'.2.word hN'.2.word
  have hown' : s'.vm.findClass own = some m.cls := by rw [hvm]; exact hown
  have hins : (Cond.instantiable cls 6).before args s' = true := h _ (by simp [Bundle.ownAtoms])
  obtain ⟨vm₁, cX, kX, hfX, hkX, -, -, X₁, st1⟩ := Y.newCold hexec (own := own) (C := cls) (index := ik) (n := 6) hown' hk' hins hini'
    (g := F0 m pc ls rest) rfl (by rw [hb]; exact d0) (Nat.le_refl _) (Nat.le_refl _)
  generalize hT1 : (T.setVm vm₁).pushCell { cls := cX, slots := kX.instanceTypes.map defaultValue, vm := .none } = T1 at X₁ st1
  have hcat : (Value.ref T.heap.size).category = 1 := rfl
  have hcellA : T1.heap[T.heap.size]? = some (freshCell cX kX) := by rw [← hT1]; exact State.heap_pushCell_size _ _
  have d3' : decode c.code (pc + 3) = .ok (.dup, 1) := by rw [hb]; exact d3
  have d4' : decode c.code (pc + 4) = .ok (.ldc is, 2) := by rw [hb]; exact d4
  have hstr' : vk_R own is text sa s' := vk_R.warm hW0 hstr
  obtain ⟨U, hsteps, hrun, hend, hW, hsame, ce, hce, hO⟩ := X₁.ctorThrowS hexec htr (own := own) (cls := cls) (names := names) (ic := ic) hown' hcls hnames h (fun x hx => nomatch hx) hfX hkX hcellA (by rw [hhp, hT]; exact Nat.le_refl _) (msg := .ref sa) rfl
    (g := { method := m, pc := pc + 6, locals := ls, stack := .ref sa :: .ref T.heap.size :: .ref T.heap.size :: rest, locked := none }) rfl hsize rfl rfl (rest := rest) rfl
    (by rw [hb]; exact d6) (by rw [hb]; exact d9) hout hRframes (by simp only [List.map_cons, List.sum_cons, hcat]; omega) hlocks
  obtain ⟨f1, f2⟩ := vx_frame hsame
  rw [hhp] at f1 f2
  have hWs : s.WarmedH U.vm := State.WarmedH.trans hW0 hW
  have hcl : s.vm.findClass cls = some ce.cls := by
    have h9 := hO.cls
    rw [hvm] at h9
    exact h9
  have hall : s.sameButNew ({ U with vm := s.vm } : State) locs mc ms := by
    subst hA
    obtain ⟨e1, e2⟩ := hsame
    rw [State.setFrames_setFrames] at e1
    have h2 : (T.setVm s.vm).sameButNew ({ U with vm := s.vm } : State) [] (0 + 1) (0 + 6) := ⟨e1, e2⟩
    have h3 := X.same.trans h2
    rw [List.append_nil] at h3
    exact h3.mono hc hs
  refine ⟨U, ?_, .threw T.heap.size, hrun, hend, Or.inr ⟨T.heap.size, rfl, cls, ce, locs, hx U hWs.alike f1 (fun q hq => f2 q hq (fun z hz => nomatch hz)), hce, hO.vm, hcl, hWs, hall, hf⟩⟩
  refine st1 _ ?_
  show Steps p.tables e below (T1.setTop { method := m, pc := pc + 3, locals := ls, stack := .ref T.heap.size :: rest, locked := none }) _
  jvm_step X₁.here [X₁.here.top, hexec, d3', Value.category]
  exact X₁.ldcString hexec (own := own) (text := text) (index := is) (a := sa) hown' hstr'.1 hstr'.2
    (g := { method := m, pc := pc + 4, locals := ls, stack := .ref T.heap.size :: .ref T.heap.size :: rest, locked := none }) rfl d4' _ hsteps
/-- 'throw new E("text")', the text by a wide index -/
theorem vx_throwSW {cc : ByteArray} {pc : Nat} (hexec : p.tables.exec = Jvm.exec) (hb : c.code = cc) (hl : l.stackTraces = false) {own cls text : String} {names : List String} {ik is ic mc ms sa : Nat} {A : Nat → Prop}
    (hown : s.vm.findClass own = some m.cls) (hcls : Bundle.fit cls = true) (hnames : ∀ n ∈ names, Bundle.fit n = true)
    (hk : (Cond.classLink own ik cls).before args s = true) (hini : (Cond.initialized cls).before args s = true) (hstr : vk_R own is text sa s) (hat : ∀ w ∈ vx_atS own ic cls names, w.before args s = true)
    (hgood : ∀ w ∈ Cond.classLink own ik cls :: Cond.initialized cls :: vx_atS own ic cls names, vx_ot w = true)
    (hU : vx_Zq Bundle.tN "UNASSIGNED_STACK" Bundle.steD A s s.heap) (hN : vx_Zq Bundle.tN "SUPPRESSED_SENTINEL" Bundle.listD A s s.heap) (hS : va_S A s.heap H locs) (hsize : ls.size = c.maxLocals)
    (d0 : decode cc pc = .ok (.new ik, 3)) (d3 : decode cc (pc + 3) = .ok (.dup, 1)) (d4 : decode cc (pc + 4) = .ok (.ldc_w is, 3)) (d7 : decode cc (pc + 7) = .ok (.invokespecial ic, 3)) (d10 : decode cc (pc + 10) = .ok (.athrow, 1))
    (hout : ∀ x ∈ c.exceptionTable.toList, covers x (pc + 10) = false)
    (hRframes : names.length + 3 < R.frames) (hRlocals : (rest.map fun v => v.category).sum + (13 * (names.length + 1) + 43) ≤ R.locals) (hRcells : cells + 1 ≤ R.cells) (hRslots : slots + 6 ≤ R.slots) (hlocks : meth.locks = false)
    (hx : ∀ t : State, s.vm.Alike t.vm → H.size ≤ t.heap.size → (∀ q : Nat, q < H.size → t.heap[q]? = H[q]?) → XC cls s t)
    (hf : ∀ z ∈ locs, free z.base) (hc : cells + 1 ≤ mc) (hs : slots + 6 ≤ ms) :
    W p l e R s m args below meth c H locs cells slots (vx_MQ below Qc XC args s mc ms free) (F0 m pc ls rest) := by
  intro T hT X
  have htr : e.platform.stackTraces = false := (show e.platform.stackTraces = l.stackTraces by rw [X.admits.platform]).trans hl
  have Y := vx_rebase X (R' := { frames := R.frames, locals := R.locals, cells := 1, slots := 6 }) (Nat.le_refl _) (Nat.le_refl _) hRcells hRslots
  obtain ⟨s', hA⟩ : ∃ z, z = (T.setVm s.vm).setFrames (.invoking m args :: below) := ⟨_, rfl⟩
  rw [← hA] at Y
  have hvm : s'.vm = s.vm := by rw [hA]; rfl
  have hhp : s'.heap = H := by rw [hA]; exact hT
  have hW0 : s.WarmedH s'.vm := by rw [hvm]; exact State.WarmedH.refl s
  have hat' : ∀ w ∈ vx_atS own ic cls names, w.before args s' = true := fun w hw => vx_ot_at hW0 hvm.symm (hgood w (List.mem_cons_of_mem _ (List.mem_cons_of_mem _ hw))) (hat w hw)
  have hk' : (Cond.classLink own ik cls).before args s' = true := vx_ot_at hW0 hvm.symm (hgood _ List.mem_cons_self) hk
  have hini' : (Cond.initialized cls).before args s' = true := vx_ot_at hW0 hvm.symm (hgood _ (List.mem_cons_of_mem _ List.mem_cons_self)) hini
  have hU' : vx_Zq Bundle.tN "UNASSIGNED_STACK" Bundle.steD A s' s'.heap := by rw [hhp]; exact vx_Zq.moved hW0.alike (hU.kept hS.2.1)
  have hN' : vx_Zq Bundle.tN "SUPPRESSED_SENTINEL" Bundle.listD A s' s'.heap := by rw [hhp]; exact vx_Zq.moved hW0.alike (hN.kept hS.2.1)
  have h : ∀ w ∈ Bundle.ownAtoms own ic cls names, w.before args s' = true := vx_own hat' (vx_isRefq hU'.1) (vx_isRefq hN'.1) hU'.2.word hN'.2.word
  have hown' : s'.vm.findClass own = some m.cls := by rw [hvm]; exact hown
  have hins : (Cond.instantiable cls 6).before args s' = true := h _ (by simp [Bundle.ownAtoms])
  obtain ⟨vm₁, cX, kX, hfX, hkX, -, -, X₁, st1⟩ := Y.newCold hexec (own := own) (C := cls) (index := ik) (n := 6) hown' hk' hins hini'
    (g := F0 m pc ls rest) rfl (by rw [hb]; exact d0) (Nat.le_refl _) (Nat.le_refl _)
  generalize hT1 : (T.setVm vm₁).pushCell { cls := cX, slots := kX.instanceTypes.map defaultValue, vm := .none } = T1 at X₁ st1
  have hcat : (Value.ref T.heap.size).category = 1 := rfl
  have hcellA : T1.heap[T.heap.size]? = some (freshCell cX kX) := by rw [← hT1]; exact State.heap_pushCell_size _ _
  have d3' : decode c.code (pc + 3) = .ok (.dup, 1) := by rw [hb]; exact d3
  have d4' : decode c.code (pc + 4) = .ok (.ldc_w is, 3) := by rw [hb]; exact d4
  have hstr' : vk_R own is text sa s' := vk_R.warm hW0 hstr
  obtain ⟨U, hsteps, hrun, hend, hW, hsame, ce, hce, hO⟩ := X₁.ctorThrowS hexec htr (own := own) (cls := cls) (names := names) (ic := ic) hown' hcls hnames h (fun x hx => nomatch hx) hfX hkX hcellA (by rw [hhp, hT]; exact Nat.le_refl _) (msg := .ref sa) rfl
    (g := { method := m, pc := pc + 7, locals := ls, stack := .ref sa :: .ref T.heap.size :: .ref T.heap.size :: rest, locked := none }) rfl hsize rfl rfl (rest := rest) rfl
    (by rw [hb]; exact d7) (by rw [hb]; exact d10) hout hRframes (by simp only [List.map_cons, List.sum_cons, hcat]; omega) hlocks
  obtain ⟨f1, f2⟩ := vx_frame hsame
  rw [hhp] at f1 f2
  have hWs : s.WarmedH U.vm := State.WarmedH.trans hW0 hW
  have hcl : s.vm.findClass cls = some ce.cls := by
    have h9 := hO.cls
    rw [hvm] at h9
    exact h9
  have hall : s.sameButNew ({ U with vm := s.vm } : State) locs mc ms := by
    subst hA
    obtain ⟨e1, e2⟩ := hsame
    rw [State.setFrames_setFrames] at e1
    have h2 : (T.setVm s.vm).sameButNew ({ U with vm := s.vm } : State) [] (0 + 1) (0 + 6) := ⟨e1, e2⟩
    have h3 := X.same.trans h2
    rw [List.append_nil] at h3
    exact h3.mono hc hs
  refine ⟨U, ?_, .threw T.heap.size, hrun, hend, Or.inr ⟨T.heap.size, rfl, cls, ce, locs, hx U hWs.alike f1 (fun q hq => f2 q hq (fun z hz => nomatch hz)), hce, hO.vm, hcl, hWs, hall, hf⟩⟩
  refine st1 _ ?_
  show Steps p.tables e below (T1.setTop { method := m, pc := pc + 3, locals := ls, stack := .ref T.heap.size :: rest, locked := none }) _
  jvm_step X₁.here [X₁.here.top, hexec, d3', Value.category]
  exact X₁.ldcStringW hexec (own := own) (text := text) (index := is) (a := sa) hown' hstr'.1 hstr'.2
    (g := { method := m, pc := pc + 4, locals := ls, stack := .ref T.heap.size :: .ref T.heap.size :: rest, locked := none }) rfl d4' _ hsteps
end Ends
section Bodies
variable {l : Launch}
theorem vx_ofW {y : MethodName} {ws ws' : List Cond} {rm : Room} {Pc : Array Value → State → Prop} {Qc : Array Value → State → Outcome → State → Prop} {XC : String → State → State → Prop} {mc ms : Nat} {free : Addr → Prop} {cc : ByteArray} {maxL : Nat} {ret : Option FieldType}
    (hy : plainName y.cls = true) (hw : ws = Cond.code y cc maxL ret :: ws')
    (body : ∀ p e s m args below meth c s₁, BodyLoose p l y (headSpec ws rm) cc maxL ret e s m args below meth c s₁ → c.maxLocals = maxL → (∀ x ∈ c.exceptionTable.toList, False) → Pc args s →
      W p l e (headSpec ws rm).room s m args below meth c s.heap [] 0 0 (vx_MQ below Qc XC args s mc ms free) (entryFrame m args maxL)) : vx_Met l y ws rm Pc Qc XC mc ms free := by
  refine MetFree.of_bodyS (code := cc) (maxLocals := maxL) (ret := ret) hy ?_ ?_
  · intro args s m h hn
    obtain ⟨meth, c, h1, h2, h3, h4, h5, h6, -, -⟩ := Cond.code_spec hn (atoms_spec (ws := ws) h _ (by rw [hw]; exact List.mem_cons_self))
    exact ⟨meth, c, h1, h2, h3, h4, h5, h6⟩
  · intro p e s m args below meth c s₁ B hml hP _
    have hh0 : s₁.heap = s.heap := by rw [B.state]; rfl
    have ht : ∀ x ∈ c.exceptionTable.toList, False := by
      obtain ⟨meth9, c9, h1, h2, -, -, -, -, h7, -⟩ := Cond.code_spec B.named (atoms_spec (ws := ws) B.pre _ (by rw [hw]; exact List.mem_cons_self))
      cases Option.some.inj (h1.symm.trans B.method)
      cases Option.some.inj (h2.symm.trans (Stand.of_body B).code)
      intro x hx
      rw [Array.isEmpty_iff.mp h7] at hx
      cases hx
    obtain ⟨t, a1, o, b1, b2, b3⟩ := body p e s m args below meth c s₁ B hml ht hP s₁ hh0 (Stand.of_body B)
    exact ⟨t, o, a1, b1, b2, b3⟩
/-- the table of a body with handlers -/
theorem vx_table {p : Program} {x y : MethodName} {S : Spec} {cc bytes : ByteArray} {maxL maxL' : Nat} {ret ret' : Option FieldType} {e : Env} {s s₁ : State} {m : MethodId} {args : Array Value} {below : List Frame} {meth : Method} {c : Code} {hh : List (Nat × Nat × Nat × Nat)}
    (B : BodyLoose p l y S cc maxL ret e s m args below meth c s₁) (h : (Cond.codeWith y bytes maxL' ret' hh).before args s = true) : c.exceptionTable.toList = tableOf hh := by
  obtain ⟨m9, meth9, c9, hn9, h1, h2, -, -, h6, -⟩ := Cond.codeWith_spec h
  cases Option.some.inj (hn9.symm.trans B.named)
  cases Option.some.inj (h1.symm.trans B.method)
  cases Option.some.inj (h2.symm.trans (Stand.of_body B).code)
  rw [← h6, table_eq]
end Bodies
end VXA
/-! ===== END ===== -/
/-! ===== BEGIN a static call of a method with an exception table ===== -/
section VXS
variable {p : Program} {l : Launch} {e : Env} {R : Room} {s : State} {m : MethodId} {args : Array Value} {below : List Frame} {meth : Method} {c : Code} {T : State} {H : Heap} {locs : List Loc} {cells slots : Nat}
abbrev vx_CSW (R : Room) (s : State) (args : Array Value) (own : String) (index : Nat) (y : MethodName) (bytes : ByteArray) (maxL : Nat) (ret : Option FieldType) (hh : List (Nat × Nat × Nat × Nat)) (ws : List Cond) (rm : Room) (mc ms n : Nat) : Prop :=
  (rm.cells = mc ∧ rm.slots = ms ∧ rm.frames + 1 ≤ R.frames ∧ 8 + (maxL + 11) + rm.locals ≤ R.locals ∧ (∀ w ∈ ws, ∀ (a' : Array Value) (U : State), s.WarmedH U.vm → w.before a' U = true) ∧ Cond.codeWith y bytes maxL ret hh ∈ ws) ∧
  (Cond.codeWith y bytes maxL ret hh).before args s = true ∧ (Cond.initialized y.cls).before args s = true ∧ (y.cls ≠ "java/lang/invoke/MethodHandle" ∧ y.cls ≠ "java/lang/invoke/VarHandle") ∧
  (∀ sig, parseMethodDescriptor y.desc = some sig → n = sig.parameters.length) ∧ (Cond.methodLink own index y).before args s = true ∧ (Cond.static y).before args s = true
theorem vx_cwSW {own : String} {index maxL mc ms : Nat} {y : MethodName} {bytes : ByteArray} {ret : Option FieldType} {hh : List (Nat × Nat × Nat × Nat)} {Ts ws ws' : List Cond} {rm : Room} (n : Nat) (ht : ∀ w ∈ Ts, w.before args s = true) (hT : GoodIn Ts (va_wsS own index y ws)) (hw : ws = Cond.codeWith y bytes maxL ret hh :: ws') (hrc : rm.cells = mc) (hrs : rm.slots = ms)
    (hd : y.cls ≠ "java/lang/invoke/MethodHandle" ∧ y.cls ≠ "java/lang/invoke/VarHandle" ∧ (parseMethodDescriptor y.desc).map (fun d => d.parameters.length) = some n) (hR : rm.frames + 1 ≤ R.frames ∧ 8 + (maxL + 11) + rm.locals ≤ R.locals) :
    vx_CSW R s args own index y bytes maxL ret hh ws rm mc ms n := by
  have ok : ∀ w ∈ va_wsS own index y ws, w.before args s = true := fun w h => ht w (hT w h).1
  have hG : GoodIn Ts ws := fun w h => hT w (by unfold va_wsS; exact List.mem_append_right _ h)
  have hc : Cond.codeWith y bytes maxL ret hh ∈ ws := by rw [hw]; exact List.mem_cons_self
  refine ⟨⟨hrc, hrs, hR.1, hR.2, pay_in ht hG, hc⟩, ht _ (hG _ hc).1, ok _ (by simp [va_wsS]), ⟨hd.1, hd.2.1⟩, fun sig h => ?_, ok _ (by simp [va_wsS]), ok _ (by simp [va_wsS])⟩
  have h2 := hd.2.2
  rw [h] at h2
  exact (Option.some.inj h2).symm
theorem vx_callSW (X : Stand p l e R s m args below meth c T locs cells slots) (hexec : p.tables.exec = Jvm.exec) {own : String} {index : Nat} {y : MethodName} {bytes : ByteArray} {maxL : Nat} {ret : Option FieldType} {hh : List (Nat × Nat × Nat × Nat)}
    (hown : s.vm.findClass own = some m.cls) (hlink : (Cond.methodLink own index y).before args s = true) (hstat : (Cond.static y).before args s = true) (hinit : (Cond.initialized y.cls).before args s = true)
    (hcode : (Cond.codeWith y bytes maxL ret hh).before args s = true) (hy : y.cls ≠ "java/lang/invoke/MethodHandle" ∧ y.cls ≠ "java/lang/invoke/VarHandle")
    {W9 : Nat} {Pre : Pt → Array Value → Prop} {Post : Pt → Array Value → Option Value → Pt → Prop} (hK : Back l R p e below s args y 3 W9 Pre Post)
    {g : JFrame} (hg : g.method = m) (hsize : g.locals.size = c.maxLocals) {argsL rest : List Value} (hlen : ∀ sig, parseMethodDescriptor y.desc = some sig → argsL.length = sig.parameters.length)
    (hstack : g.stack = argsL.reverse ++ rest) (hW : 2 * g.monitorRoom + (rest.map fun v => v.category).sum ≤ W9) (hdg : decode c.code g.pc = .ok (.invokestatic index, 3))
    (hpre : ∀ vm₁, s.WarmedH vm₁ → Pre ⟨T.setVm vm₁, locs, cells, slots⟩ argsL.toArray) :
    ∃ (v : Option Value) (vm₁ : Vm) (B : Pt), s.WarmedH vm₁ ∧ Stand p l e R s m args below meth c B.U B.locs B.cells B.slots ∧ Post ⟨T.setVm vm₁, locs, cells, slots⟩ argsL.toArray v B ∧
      ∀ target, Steps p.tables e below (B.U.setTop { g with pc := g.pc + 3, stack := v.toList ++ rest }) target → Steps p.tables e below (T.setTop g) target := by
  obtain ⟨mk, methM, cM, hnamed, hmethM, -, -, -, -, -, -, hsigM⟩ := Cond.codeWith_spec hcode
  have hstatic : methM.isStatic = true := Cond.static_spec hnamed hmethM hstat
  obtain ⟨kP, hkP, -⟩ := className_of_methodNamed hnamed
  have hinitP : kP.init = .initialized := Cond.initialized_spec (findClass_of_methodNamed hnamed) hkP hinit
  obtain ⟨vm₁, X₁, hstep₁⟩ := X.invokestatic hexec hown hlink hnamed hmethM hstatic hkP hinitP hy (g := g) hg (argsL := argsL) (rest := rest) (hlen _ hsigM) hstack hdg
  obtain ⟨v, B, X', hpost, hsteps⟩ := hK m meth c ⟨T.setVm vm₁, locs, cells, slots⟩ { g with stack := rest } (.invokestatic index) mk argsL.toArray X₁ hg hsize hdg hW (X₁.named hnamed) (hpre vm₁ X₁.warmed)
  exact ⟨v, vm₁, B, X₁.warmed, X', hpost, fun target h => hstep₁ _ fun acts => by rw [doInvoke_state]; exact hsteps.trans h⟩
theorem vx_runSW {y : MethodName} {bytes cc : ByteArray} {maxL nL mc ms n index : Nat} {ret : Option FieldType} {hh : List (Nat × Nat × Nat × Nat)} {ws : List Cond} {rm : Room} {Pc : Array Value → State → Prop} {Qc : Array Value → State → Outcome → State → Prop} {free : Addr → Prop} {Ts : List Cond} {own : String} {As rest : List Value} {g : JFrame}
    (S : CallFix p m c cc nL s args Ts own) (hM : Met l y ws rm Pc Qc mc ms free) (cw : vx_CSW R s args own index y bytes maxL ret hh ws rm mc ms n) (hp : PreS s H Pc As)
    (hg : g.method = m) (hn : As.length = n) (hsize : g.locals.size = nL) (hstack : g.stack = As.reverse ++ rest) (hW : 2 * g.monitorRoom + (rest.map fun v => v.category).sum ≤ 8) (hdg : decode cc g.pc = .ok (.invokestatic index, 3)) (hf : cells + mc ≤ R.cells ∧ slots + ms ≤ R.slots) :
    va_Run p l e R s m args below meth c H locs cells slots mc ms g rest (Qc As.toArray) (free) := by
  obtain ⟨⟨hrc, hrs, hfr, hlo, hws, hcw⟩, hcode, hini, hy, hlen, hl, hstt⟩ := cw
  have hK : Back l R p e below s args y 3 8 (PreOf R mc ms Pc) (PostOf Qc mc ms free) := va_backW (hh := hh) (bytes := bytes) (maxL := maxL) (ret := ret) hM hp.1 hrc hrs hfr hlo hws hcw (fun a' U hW => word_at hW (Or.inl (by first | rfl | simp [Cond.onTables, Cond.keeps, Cond.steady])) hini)
  obtain ⟨hx, hb, hml, ho, -⟩ := S
  intro T hT X
  obtain ⟨v, vm₁, ⟨U', l2, c2, s2⟩, hW₁, X', ⟨g', mk, t, L, e1, e2, hq, h1, hL, h2, h3⟩, st⟩ := vx_callSW X hx (hh := hh) (bytes := bytes) (maxL := maxL) (ret := ret) ho hl hstt hini hcode hy hK hg (hsize.trans hml.symm) (argsL := As) (rest := rest) (fun sig h => hn.trans (hlen sig h)) hstack hW (by rw [hb]; exact hdg)
    (fun vm₁ hW₁ => ⟨hf.1, hf.2, hp.2 (T.setVm vm₁) hT hW₁⟩)
  dsimp only [Pt.U, Pt.locs, Pt.cells, Pt.slots] at X' e1 e2 h1 h2 h3 st
  subst h1; subst h2; subst h3
  exact ⟨v, (T.setVm vm₁).calling g' mk As.toArray, t, U', L, hT, X', hL, e1, e2, hq, st⟩
/-- not caught here, past rows that name other classes: it goes on to the caller -/
theorem vx_outP {p : Program} {l : Launch} {e : Env} {R : Room} {s : State} {m : MethodId} {args : Array Value} {below : List Frame} {meth : Method} {c : Code} {H : Heap} {locs : List Loc} {cells slots : Nat} {free : Addr → Prop} {ls : Array Slot} {rest : List Value} {Qc : Array Value → State → Outcome → State → Prop} {XC : String → State → State → Prop}
    {pc : Nat} {own E : String} {ce : Cell} {q : Addr} {mc ms : Nat} (hown : s.vm.findClass own = some m.cls) (hlocks : meth.locks = false)
    (hpass : ∀ z ∈ c.exceptionTable.toList, covers z pc = false ∨ (z.catchType ≠ 0 ∧ ∃ nm : String, (Cond.classLink own z.catchType nm).before args s = true ∧ va_Nc E nm s)) (hcell : H[q]? = some ce) (hv : ce.vm = .none) (hcl : s.vm.findClass E = some ce.cls)
    (hx : ∀ t : State, t.heap = H → s.vm.Alike t.vm → XC E s t) (hf : ∀ z ∈ locs, free z.base) (hc : cells ≤ mc) (hs : slots ≤ ms) :
    vx_W p l e R s m args below meth c H locs cells slots (vx_MQ below Qc XC args s mc ms free) (F0 m pc ls rest) q := by
  intro T hT X
  have hpl : e.platform.magicAccessors = ({} : Platform).magicAccessors := by rw [X.admits.platform]
  obtain ⟨vm', hW', X', st⟩ := X.outThrough hlocks q (g := F0 m pc ls rest) rfl rfl rfl (cell := ce) (by rw [hT]; exact hcell) (by rw [hv]; rfl)
    (by obtain ⟨k9, h9, -⟩ := Vm.findClass_spec hcl; exact ⟨k9, h9⟩) (fun z hz => by
      rcases hpass z hz with h | ⟨hz0, nm, hl1, hn1⟩
      · exact Or.inl h
      · obtain ⟨c6, hc6, hcl6⟩ := Cond.classLink_spec hown hl1 e.platform hpl
        obtain ⟨a8, b8, h1, h2, h3⟩ := hn1
        cases Option.some.inj (h1.symm.trans hcl)
        cases Option.some.inj (h2.symm.trans hc6)
        exact Or.inr ⟨hz0, _, hcl6, h3⟩)
  obtain ⟨g₀, hfr⟩ := X'.frames_eq
  have hcell9 : ((T.setVm vm').setFrames (.throwing q :: below)).heap[q]? = some ce := by
    show T.heap[q]? = some ce
    rw [hT]; exact hcell
  have hend : Ended ((T.setVm vm').setFrames (.throwing q :: below)) below (.threw q) := State.frames_setFrames _ (State.cur_lt_of_frames hfr)
  refine ⟨(T.setVm vm').setFrames (.throwing q :: below), ?_, .threw q, X'.here.running, hend, Or.inr ⟨q, rfl, E, ce, locs, hx _ hT (X'.ends _).1.alike, hcell9, hv, hcl, (X'.ends _).1, (X'.ends _).2.mono hc hs, hf⟩⟩
  rw [X.pushThrowing_eq]
  exact st
/-- a thing of a world lies in the heap -/
theorem vx_lt {D : va_G} {cl : List vw_C} {ws : va_W} {H1 : Heap} (h : va_P D cl ws H1) {k : Nat} {q : Nat × va_E} (hk : ws[k]? = some q) : q.1 < H1.size := (h k q hk).lt
end VXS
/-! ===== END ===== -/
/-! ===== BEGIN methods with a table of their own: called by a name, returning or throwing ===== -/
section VXH
/-! vx_backW, vx_callVX, vx_callSX, vx_callVW, vx_runVW, vx_runVX, vx_runSX, vx_ofWH follow the same proofs as their sisters above (Free/Laws.lean, Shelf42/LK1.lean); vx_outP calls Shelf42/NT130.lean (outThrough). -/
section
variable {l : Launch} {R : Room} {p : Program} {e : Env} {below : List Frame} {s : State} {sargs : Array Value} {y : MethodName} {len W9 : Nat}
theorem vx_backW {ws : List Cond} {rm : Room} {Pc : Array Value → State → Prop} {Qc : Array Value → State → Outcome → State → Prop} {XC : String → State → State → Prop} {mc ms : Nat} {free : Addr → Prop} {bytes : ByteArray} {maxL : Nat} {ret : Option FieldType} {hh : List (Nat × Nat × Nat × Nat)}
    (hM : vx_Met l y ws rm Pc Qc XC mc ms free) (hblind : FrameBlind Pc) (hrc : rm.cells = mc) (hrs : rm.slots = ms)
    (hframes : rm.frames + 1 ≤ R.frames) (hlocals : W9 + (maxL + 11) + rm.locals ≤ R.locals)
    (hws : ∀ w ∈ ws, ∀ a' U, s.WarmedH U.vm → w.before a' U = true) (hcode : Cond.codeWith y bytes maxL ret hh ∈ ws) (hinit : ∀ a' U, s.WarmedH U.vm → (Cond.initialized y.cls).before a' U = true) :
    vx_Back l R p e below s sargs y len W9 (PreOf R mc ms Pc) (PostOf Qc mc ms free) (vx_Post XC mc ms free) := by
  intro m meth c A g ig mk a X hg hsize hdg hW hn hp
  have h1 : (headSpec ws rm).pre.before a A.U = true := atoms_intro fun w hw => hws w hw _ _ X.warmed
  have h2 : (Cond.codeWith y bytes maxL ret hh).before a A.U = true := hws _ hcode _ _ X.warmed
  have h3 : (Cond.initialized y.cls).before a A.U = true := hinit _ _ X.warmed
  have h4 : A.cells + (headSpec ws rm).room.cells ≤ R.cells := by rw [show (headSpec ws rm).room.cells = mc from hrc]; exact hp.1
  have h5 : A.slots + (headSpec ws rm).room.slots ≤ R.slots := by rw [show (headSpec ws rm).room.slots = ms from hrs]; exact hp.2.1
  have hPc : Pc a (A.U.calling g mk a) := hblind _ _ _ _ hp.2.2
  obtain ⟨U, Ls, c0, s0⟩ := A
  dsimp only [Pt.U, Pt.locs, Pt.cells, Pt.slots] at h1 h2 h3 h4 h5 X hn hPc ⊢
  obtain ⟨m9, methY, cY, hn9, hmY, hcY, -, hlY, -⟩ := Cond.codeWith_spec h2
  cases Option.some.inj (hn9.symm.trans hn)
  obtain ⟨kY, hkY, -⟩ := className_of_methodNamed hn
  have hinitY : kY.init = .initialized := Cond.initialized_spec (findClass_of_methodNamed hn) hkY h3
  have h : At U g.method c below := by rw [hg]; exact X.here
  have hlocals9 : W9 + (maxL + 11) + (headSpec ws rm).room.locals ≤ R.locals := hlocals
  have happ : (headSpec ws rm).appliesLoose y e.platform (U.calling g mk a) = true :=
    Spec.appliesLoose_calling (g := g) h hdg hn hkY hinitY
      (X.room_calling (g := g) (R' := (headSpec ws rm).room) hsize hmY hcY hframes (by rw [hlY]; omega) h4 h5) h1
  obtain ⟨mid, hmid⟩ := h.above
  have hfr : (U.setTop g).frames = (.java g :: mid) ++ below := by rw [State.frames_setTop' g h.top, hmid]; rfl
  obtain ⟨o, s₂, hsteps, -, hend, hq⟩ := Steps.callFree hM p X.admits X.cas X.clock (acts := []) hfr happ hPc trivial
  have hq' : vx_Q Qc XC mc ms free a (U.calling g mk a) o s₂ := hq
  rw [State.frames_setTop' g h.top] at hend
  obtain ⟨g₀, hg0⟩ := Option.isSome_iff_exists.mp h.top
  obtain ⟨r, hr⟩ := State.topJava?_eq_some.mp hg0
  have hr' : (({ U with heap := s₂.heap, slotsUsed := s₂.slotsUsed } : State).setVm s₂.vm).frames = .java g₀ :: r := hr
  rcases hq' with ⟨hqc, L, hfe, hL⟩ | ⟨q, rfl, E, ce, L, hx, hce, hcv, hcl, hW₂, hsm, hL⟩
  · obtain ⟨⟨v, rfl⟩, hW₂, e2, q2, q3, q4, q5, q6⟩ := id hfe
    have e3 : s₂ = ({ (U.calling g mk a).setFrames s₂.frames with heap := s₂.heap, slotsUsed := s₂.slotsUsed } : State).setVm s₂.vm := by
      have : s₂ = ({ s₂ with vm := (U.calling g mk a).vm } : State).setVm s₂.vm := rfl
      rw [e2] at this
      exact this
    obtain ⟨c₂, i₂, len₂, hc₂, hd₂, hf₂⟩ := hend
    have hW' : U.WarmedH s₂.vm := hW₂
    have hcc : c₂ = c := by
      have h1 : s₂.code? g.method = U.code? g.method := by
        rw [State.code?_eq, State.code?_eq, hW'.alike.method?]
      exact Option.some.inj (hc₂.symm.trans (h1.trans h.code))
    subst hcc
    have hlen : len₂ = len := by rw [hdg] at hd₂; cases hd₂; rfl
    subst hlen
    have hs₂ : s₂ = (({ U with heap := s₂.heap, slotsUsed := s₂.slotsUsed } : State).setVm s₂.vm).setTop { g with pc := g.pc + len₂, stack := v.toList ++ g.stack } := by
      refine e3.trans ?_
      rw [hf₂, State.calling_eq h.top, State.setFrames_setFrames, State.setTop_of_frames _ hr', hr]
      rfl
    have hsame : U.sameButNew ({ U with heap := s₂.heap, slotsUsed := s₂.slotsUsed } : State) L mc ms := by
      refine ⟨?_, q2, q3, q4, q5, q6⟩
      obtain ⟨t, ht, -⟩ := State.frames_cons hr
      show ({ U with heap := s₂.heap, slotsUsed := s₂.slotsUsed } : State) = { U.setFrames U.frames with heap := s₂.heap, slotsUsed := s₂.slotsUsed }
      rw [State.setFrames_self ht]
    subst hg
    refine Or.inl ⟨v, ⟨(({ U with heap := s₂.heap, slotsUsed := s₂.slotsUsed } : State).setVm s₂.vm), Ls ++ L, c0 + mc, s0 + ms⟩,
      ⟨X.admits, X.cas, X.clock, X.frames, X.room, X.hears, X.method, X.code, (X.here.setHeapUsed s₂.heap s₂.slotsUsed).setVm hW'.alike, X.tail, State.WarmedH.trans X.warmed hW', X.limits, X.bytes, X.same.trans (hsame.setVm s.vm)⟩,
      ⟨g, mk, s₂, L, rfl, rfl, hqc, rfl, hL, rfl, rfl⟩, ?_⟩
    show Steps p.tables e below _ ((({ U with heap := s₂.heap, slotsUsed := s₂.slotsUsed } : State).setVm s₂.vm).setTop { g with pc := g.pc + len₂, stack := v.toList ++ g.stack })
    rw [← hs₂]
    exact hsteps
  · obtain ⟨e2, q2, q3, q4, q5, q6⟩ := id hsm
    have e3 : s₂ = ({ (U.calling g mk a).setFrames s₂.frames with heap := s₂.heap, slotsUsed := s₂.slotsUsed } : State).setVm s₂.vm := by
      have : s₂ = ({ s₂ with vm := (U.calling g mk a).vm } : State).setVm s₂.vm := rfl
      rw [e2] at this
      exact this
    have hf₂ : s₂.frames = .throwing q :: .java g :: U.frames.tail := hend
    have hW' : U.WarmedH s₂.vm := hW₂
    have hs₂ : s₂ = ((({ U with heap := s₂.heap, slotsUsed := s₂.slotsUsed } : State).setVm s₂.vm).setTop g).pushFrame (.throwing q) := by
      refine e3.trans ?_
      rw [hf₂, State.calling_eq h.top, State.setFrames_setFrames, State.pushFrame, State.frames_setTop _ hr', State.setTop_of_frames _ hr', State.setFrames_setFrames, hr]
      rfl
    have hsame : U.sameButNew ({ U with heap := s₂.heap, slotsUsed := s₂.slotsUsed } : State) L mc ms := by
      refine ⟨?_, q2, q3, q4, q5, q6⟩
      obtain ⟨t, ht, -⟩ := State.frames_cons hr
      show ({ U with heap := s₂.heap, slotsUsed := s₂.slotsUsed } : State) = { U.setFrames U.frames with heap := s₂.heap, slotsUsed := s₂.slotsUsed }
      rw [State.setFrames_self ht]
    subst hg
    refine Or.inr ⟨q, ⟨(({ U with heap := s₂.heap, slotsUsed := s₂.slotsUsed } : State).setVm s₂.vm), Ls ++ L, c0 + mc, s0 + ms⟩,
      ⟨X.admits, X.cas, X.clock, X.frames, X.room, X.hears, X.method, X.code, (X.here.setHeapUsed s₂.heap s₂.slotsUsed).setVm hW'.alike, X.tail, State.WarmedH.trans X.warmed hW', X.limits, X.bytes, X.same.trans (hsame.setVm s.vm)⟩,
      ⟨g, mk, s₂, L, E, ce, rfl, rfl, hx, hce, hcv, hcl, rfl, hL, rfl, rfl⟩, ?_⟩
    show Steps p.tables e below _ (((({ U with heap := s₂.heap, slotsUsed := s₂.slotsUsed } : State).setVm s₂.vm).setTop g).pushFrame (.throwing q))
    rw [← hs₂]
    exact hsteps
end
variable {p : Program} {l : Launch} {e : Env} {R : Room} {s : State} {m : MethodId} {args : Array Value} {below : List Frame} {meth : Method} {c : Code} {T : State} {H : Heap} {locs : List Loc} {cells slots : Nat}
theorem vx_callVX (X : Stand p l e R s m args below meth c T locs cells slots) (hexec : p.tables.exec = Jvm.exec) {own C : String} {index : Nat} {y : MethodName} {bytes : ByteArray} {maxL : Nat} {ret : Option FieldType} {hh : List (Nat × Nat × Nat × Nat)}
    (hown : s.vm.findClass own = some m.cls) (hlink : (Cond.methodLink own index y).before args s = true) (hinst : (Cond.instanceMethod y).before args s = true) (hsel : (Cond.selects C y y).before args s = true)
    (hcode : (Cond.codeWith y bytes maxL ret hh).before args s = true) (hy : y.cls ≠ "java/lang/invoke/MethodHandle" ∧ y.cls ≠ "java/lang/invoke/VarHandle")
    {W9 : Nat} {Pre : Pt → Array Value → Prop} {Post : Pt → Array Value → Option Value → Pt → Prop} {PostX : Pt → Array Value → Addr → Pt → Prop} (hK : vx_Back l R p e below s args y 3 W9 Pre Post PostX)
    {b : Addr} {cellB : Cell} (hcell : T.heap[b]? = some cellB) (hobj : cellB.vm.isStatics = false) (hcls : s.vm.findClass C = some cellB.cls)
    {g : JFrame} (hg : g.method = m) (hsize : g.locals.size = c.maxLocals) {argsL rest : List Value} (hlen : ∀ sig, parseMethodDescriptor y.desc = some sig → argsL.length = sig.parameters.length)
    (hstack : g.stack = argsL.reverse ++ .ref b :: rest) (hW : 2 * g.monitorRoom + (rest.map fun v => v.category).sum ≤ W9) (hdg : decode c.code g.pc = .ok (.invokevirtual index, 3))
    (hpre : ∀ vm₁, s.WarmedH vm₁ → Pre ⟨T.setVm vm₁, locs, cells, slots⟩ (Value.ref b :: argsL).toArray) :
    (∃ (v : Option Value) (vm₁ : Vm) (B : Pt), s.WarmedH vm₁ ∧ Stand p l e R s m args below meth c B.U B.locs B.cells B.slots ∧ Post ⟨T.setVm vm₁, locs, cells, slots⟩ (Value.ref b :: argsL).toArray v B ∧
      ∀ target, Steps p.tables e below (B.U.setTop { g with pc := g.pc + 3, stack := v.toList ++ rest }) target → Steps p.tables e below (T.setTop g) target) ∨
    (∃ (q : Addr) (vm₁ : Vm) (B : Pt), s.WarmedH vm₁ ∧ Stand p l e R s m args below meth c B.U B.locs B.cells B.slots ∧ PostX ⟨T.setVm vm₁, locs, cells, slots⟩ (Value.ref b :: argsL).toArray q B ∧
      Steps p.tables e below (T.setTop g) ((B.U.setTop { g with stack := rest }).pushFrame (.throwing q))) := by
  obtain ⟨mk, methM, hnamed, hmethM, hstM, habM⟩ := Cond.instanceMethod_spec hinst
  obtain ⟨m8, methM', cM, hn8, hmethM', -, -, -, -, -, -, hsigM⟩ := Cond.codeWith_spec hcode
  cases Option.some.inj (hn8.symm.trans hnamed)
  cases hmethM.symm.trans hmethM'
  obtain ⟨c2, r2, m2, q1, q2, q3, q4, kP, hkP, hkPi⟩ := Cond.selects_spec hsel
  cases hcls.symm.trans q1
  cases (State.methodFound?_of_named hnamed hy).symm.trans q2
  cases hnamed.symm.trans q3
  have hselP : selectMethod e.platform s.vm cellB.cls mk = .method mk := by rw [Launch.admits_selectMethod X.admits]; exact q4
  obtain ⟨vm₁, X₁, hstep₁⟩ := X.invokevirtual hexec hown hlink hnamed hmethM hstM hkP hkPi hy (a := b) (cell := cellB) hcell
    (fun z h => by rw [h] at hobj; cases hobj) hselP hmethM habM hkP hkPi (g := g) hg (argsL := argsL) (rest := rest) (hlen _ hsigM) hstack hdg
  rcases hK m meth c ⟨T.setVm vm₁, locs, cells, slots⟩ { g with stack := rest } (.invokevirtual index) mk (Value.ref b :: argsL).toArray X₁ hg hsize hdg hW (X₁.named hnamed) (hpre vm₁ X₁.warmed) with ⟨v, B, X', hpost, hsteps⟩ | ⟨q, B, X', hpost, hsteps⟩
  · exact Or.inl ⟨v, vm₁, B, X₁.warmed, X', hpost, fun target h => hstep₁ _ fun acts => by rw [doInvoke_state]; exact hsteps.trans h⟩
  · exact Or.inr ⟨q, vm₁, B, X₁.warmed, X', hpost, hstep₁ _ fun acts => by rw [doInvoke_state]; exact hsteps⟩
theorem vx_callSX (X : Stand p l e R s m args below meth c T locs cells slots) (hexec : p.tables.exec = Jvm.exec) {own : String} {index : Nat} {y : MethodName} {bytes : ByteArray} {maxL : Nat} {ret : Option FieldType} {hh : List (Nat × Nat × Nat × Nat)}
    (hown : s.vm.findClass own = some m.cls) (hlink : (Cond.methodLink own index y).before args s = true) (hstat : (Cond.static y).before args s = true) (hinit : (Cond.initialized y.cls).before args s = true)
    (hcode : (Cond.codeWith y bytes maxL ret hh).before args s = true) (hy : y.cls ≠ "java/lang/invoke/MethodHandle" ∧ y.cls ≠ "java/lang/invoke/VarHandle")
    {W9 : Nat} {Pre : Pt → Array Value → Prop} {Post : Pt → Array Value → Option Value → Pt → Prop} {PostX : Pt → Array Value → Addr → Pt → Prop} (hK : vx_Back l R p e below s args y 3 W9 Pre Post PostX)
    {g : JFrame} (hg : g.method = m) (hsize : g.locals.size = c.maxLocals) {argsL rest : List Value} (hlen : ∀ sig, parseMethodDescriptor y.desc = some sig → argsL.length = sig.parameters.length)
    (hstack : g.stack = argsL.reverse ++ rest) (hW : 2 * g.monitorRoom + (rest.map fun v => v.category).sum ≤ W9) (hdg : decode c.code g.pc = .ok (.invokestatic index, 3))
    (hpre : ∀ vm₁, s.WarmedH vm₁ → Pre ⟨T.setVm vm₁, locs, cells, slots⟩ argsL.toArray) :
    (∃ (v : Option Value) (vm₁ : Vm) (B : Pt), s.WarmedH vm₁ ∧ Stand p l e R s m args below meth c B.U B.locs B.cells B.slots ∧ Post ⟨T.setVm vm₁, locs, cells, slots⟩ argsL.toArray v B ∧
      ∀ target, Steps p.tables e below (B.U.setTop { g with pc := g.pc + 3, stack := v.toList ++ rest }) target → Steps p.tables e below (T.setTop g) target) ∨
    (∃ (q : Addr) (vm₁ : Vm) (B : Pt), s.WarmedH vm₁ ∧ Stand p l e R s m args below meth c B.U B.locs B.cells B.slots ∧ PostX ⟨T.setVm vm₁, locs, cells, slots⟩ argsL.toArray q B ∧
      Steps p.tables e below (T.setTop g) ((B.U.setTop { g with stack := rest }).pushFrame (.throwing q))) := by
  obtain ⟨mk, methM, cM, hnamed, hmethM, -, -, -, -, -, -, hsigM⟩ := Cond.codeWith_spec hcode
  have hstatic : methM.isStatic = true := Cond.static_spec hnamed hmethM hstat
  obtain ⟨kP, hkP, -⟩ := className_of_methodNamed hnamed
  have hinitP : kP.init = .initialized := Cond.initialized_spec (findClass_of_methodNamed hnamed) hkP hinit
  obtain ⟨vm₁, X₁, hstep₁⟩ := X.invokestatic hexec hown hlink hnamed hmethM hstatic hkP hinitP hy (g := g) hg (argsL := argsL) (rest := rest) (hlen _ hsigM) hstack hdg
  rcases hK m meth c ⟨T.setVm vm₁, locs, cells, slots⟩ { g with stack := rest } (.invokestatic index) mk argsL.toArray X₁ hg hsize hdg hW (X₁.named hnamed) (hpre vm₁ X₁.warmed) with ⟨v, B, X', hpost, hsteps⟩ | ⟨q, B, X', hpost, hsteps⟩
  · exact Or.inl ⟨v, vm₁, B, X₁.warmed, X', hpost, fun target h => hstep₁ _ fun acts => by rw [doInvoke_state]; exact hsteps.trans h⟩
  · exact Or.inr ⟨q, vm₁, B, X₁.warmed, X', hpost, hstep₁ _ fun acts => by rw [doInvoke_state]; exact hsteps⟩
theorem vx_callVW (X : Stand p l e R s m args below meth c T locs cells slots) (hexec : p.tables.exec = Jvm.exec) {own C : String} {index : Nat} {y : MethodName} {bytes : ByteArray} {maxL : Nat} {ret : Option FieldType} {hh : List (Nat × Nat × Nat × Nat)}
    (hown : s.vm.findClass own = some m.cls) (hlink : (Cond.methodLink own index y).before args s = true) (hinst : (Cond.instanceMethod y).before args s = true) (hsel : (Cond.selects C y y).before args s = true)
    (hcode : (Cond.codeWith y bytes maxL ret hh).before args s = true) (hy : y.cls ≠ "java/lang/invoke/MethodHandle" ∧ y.cls ≠ "java/lang/invoke/VarHandle")
    {W9 : Nat} {Pre : Pt → Array Value → Prop} {Post : Pt → Array Value → Option Value → Pt → Prop} (hK : Back l R p e below s args y 3 W9 Pre Post)
    {b : Addr} {cellB : Cell} (hcell : T.heap[b]? = some cellB) (hobj : cellB.vm.isStatics = false) (hcls : s.vm.findClass C = some cellB.cls)
    {g : JFrame} (hg : g.method = m) (hsize : g.locals.size = c.maxLocals) {argsL rest : List Value} (hlen : ∀ sig, parseMethodDescriptor y.desc = some sig → argsL.length = sig.parameters.length)
    (hstack : g.stack = argsL.reverse ++ .ref b :: rest) (hW : 2 * g.monitorRoom + (rest.map fun v => v.category).sum ≤ W9) (hdg : decode c.code g.pc = .ok (.invokevirtual index, 3))
    (hpre : ∀ vm₁, s.WarmedH vm₁ → Pre ⟨T.setVm vm₁, locs, cells, slots⟩ (Value.ref b :: argsL).toArray) :
    ∃ (v : Option Value) (vm₁ : Vm) (B : Pt), s.WarmedH vm₁ ∧ Stand p l e R s m args below meth c B.U B.locs B.cells B.slots ∧ Post ⟨T.setVm vm₁, locs, cells, slots⟩ (Value.ref b :: argsL).toArray v B ∧
      ∀ target, Steps p.tables e below (B.U.setTop { g with pc := g.pc + 3, stack := v.toList ++ rest }) target → Steps p.tables e below (T.setTop g) target := by
  obtain ⟨mk, methM, hnamed, hmethM, hstM, habM⟩ := Cond.instanceMethod_spec hinst
  obtain ⟨m8, methM', cM, hn8, hmethM', -, -, -, -, -, -, hsigM⟩ := Cond.codeWith_spec hcode
  cases Option.some.inj (hn8.symm.trans hnamed)
  cases hmethM.symm.trans hmethM'
  obtain ⟨c2, r2, m2, q1, q2, q3, q4, kP, hkP, hkPi⟩ := Cond.selects_spec hsel
  cases hcls.symm.trans q1
  cases (State.methodFound?_of_named hnamed hy).symm.trans q2
  cases hnamed.symm.trans q3
  have hselP : selectMethod e.platform s.vm cellB.cls mk = .method mk := by rw [Launch.admits_selectMethod X.admits]; exact q4
  obtain ⟨vm₁, X₁, hstep₁⟩ := X.invokevirtual hexec hown hlink hnamed hmethM hstM hkP hkPi hy (a := b) (cell := cellB) hcell
    (fun z h => by rw [h] at hobj; cases hobj) hselP hmethM habM hkP hkPi (g := g) hg (argsL := argsL) (rest := rest) (hlen _ hsigM) hstack hdg
  obtain ⟨v, B, X', hpost, hsteps⟩ := hK m meth c ⟨T.setVm vm₁, locs, cells, slots⟩ { g with stack := rest } (.invokevirtual index) mk (Value.ref b :: argsL).toArray X₁ hg hsize hdg hW (X₁.named hnamed) (hpre vm₁ X₁.warmed)
  exact ⟨v, vm₁, B, X₁.warmed, X', hpost, fun target h => hstep₁ _ fun acts => by rw [doInvoke_state]; exact hsteps.trans h⟩
abbrev vx_CVW (R : Room) (s : State) (args : Array Value) (own C : String) (index : Nat) (y : MethodName) (bytes : ByteArray) (maxL : Nat) (ret : Option FieldType) (hh : List (Nat × Nat × Nat × Nat)) (ws : List Cond) (rm : Room) (mc ms n : Nat) : Prop :=
  (rm.cells = mc ∧ rm.slots = ms ∧ rm.frames + 1 ≤ R.frames ∧ 8 + (maxL + 11) + rm.locals ≤ R.locals ∧ (∀ w ∈ ws, ∀ (a' : Array Value) (U : State), s.WarmedH U.vm → w.before a' U = true) ∧ Cond.codeWith y bytes maxL ret hh ∈ ws) ∧
  (Cond.codeWith y bytes maxL ret hh).before args s = true ∧ (Cond.initialized y.cls).before args s = true ∧ (y.cls ≠ "java/lang/invoke/MethodHandle" ∧ y.cls ≠ "java/lang/invoke/VarHandle") ∧
  (∀ sig, parseMethodDescriptor y.desc = some sig → n = sig.parameters.length) ∧ (Cond.methodLink own index y).before args s = true ∧ (Cond.instanceMethod y).before args s = true ∧ (Cond.selects C y y).before args s = true
theorem vx_cwVW {own C : String} {index maxL mc ms : Nat} {y : MethodName} {bytes : ByteArray} {ret : Option FieldType} {hh : List (Nat × Nat × Nat × Nat)} {Ts ws ws' : List Cond} {rm : Room} (n : Nat) (ht : ∀ w ∈ Ts, w.before args s = true) (hT : GoodIn Ts (wsV own index C y ws)) (hw : ws = Cond.codeWith y bytes maxL ret hh :: ws') (hrc : rm.cells = mc) (hrs : rm.slots = ms)
    (hd : y.cls = C ∧ y.cls ≠ "java/lang/invoke/MethodHandle" ∧ y.cls ≠ "java/lang/invoke/VarHandle" ∧ (parseMethodDescriptor y.desc).map (fun d => d.parameters.length) = some n) (hR : rm.frames + 1 ≤ R.frames ∧ 8 + (maxL + 11) + rm.locals ≤ R.locals) :
    vx_CVW R s args own C index y bytes maxL ret hh ws rm mc ms n := by
  obtain ⟨hC, hd⟩ := hd
  subst hC
  have ok : ∀ w ∈ wsV own index y.cls y ws, w.before args s = true := fun w h => ht w (hT w h).1
  have hG : GoodIn Ts ws := fun w h => hT w (by unfold wsV; exact List.mem_append_right _ h)
  have hc : Cond.codeWith y bytes maxL ret hh ∈ ws := by rw [hw]; exact List.mem_cons_self
  refine ⟨⟨hrc, hrs, hR.1, hR.2, pay_in ht hG, hc⟩, ht _ (hG _ hc).1, ok _ (by simp [wsV]), ⟨hd.1, hd.2.1⟩, fun sig h => ?_, ok _ (by simp [wsV]), ok _ (by simp [wsV]), ok _ (by simp [wsV])⟩
  have h2 := hd.2.2
  rw [h] at h2
  exact (Option.some.inj h2).symm
theorem vx_runVW {y : MethodName} {bytes cc : ByteArray} {maxL nL mc ms n index : Nat} {ret : Option FieldType} {hh : List (Nat × Nat × Nat × Nat)} {ws : List Cond} {rm : Room} {Pc : Array Value → State → Prop} {Qc : Array Value → State → Outcome → State → Prop} {free : Addr → Prop} {Ts : List Cond} {own C : String} {b : Addr} {As rest : List Value} {g : JFrame}
    (S : CallFix p m c cc nL s args Ts own) (hM : Met l y ws rm Pc Qc mc ms free) (cw : vx_CVW R s args own C index y bytes maxL ret hh ws rm mc ms n) (hp : PreV s H C b Pc As)
    (hg : g.method = m) (hn : As.length = n) (hsize : g.locals.size = nL) (hstack : g.stack = As.reverse ++ .ref b :: rest) (hW : 2 * g.monitorRoom + (rest.map fun v => v.category).sum ≤ 8) (hdg : decode cc g.pc = .ok (.invokevirtual index, 3)) (hf : cells + mc ≤ R.cells ∧ slots + ms ≤ R.slots) :
    va_Run p l e R s m args below meth c H locs cells slots mc ms g rest (Qc (Value.ref b :: As).toArray) free := by
  obtain ⟨⟨hrc, hrs, hfr, hlo, hws, hcw⟩, hcode, hini, hy, hlen, hl, hin, hse⟩ := cw
  have hK : Back l R p e below s args y 3 8 (PreOf R mc ms Pc) (PostOf Qc mc ms free) := va_backW (hh := hh) (bytes := bytes) (maxL := maxL) (ret := ret) hM hp.1 hrc hrs hfr hlo hws hcw (fun a' U hW => word_at hW (Or.inl (by first | rfl | simp [Cond.onTables, Cond.keeps, Cond.steady])) hini)
  obtain ⟨hx, hb, hml, ho, -⟩ := S
  obtain ⟨-, ⟨cellB, hcB, hoB, hclB⟩, hPc⟩ := hp
  intro T hT X
  obtain ⟨v, vm₁, ⟨U', l2, c2, s2⟩, hW₁, X', ⟨g', mk, t, L, e1, e2, hq, h1, hL, h2, h3⟩, st⟩ := vx_callVW X hx (C := C) (hh := hh) (bytes := bytes) (maxL := maxL) (ret := ret) ho hl hin hse hcode hy hK (by rw [hT]; exact hcB) hoB hclB hg (hsize.trans hml.symm) (argsL := As) (rest := rest) (fun sig h => hn.trans (hlen sig h)) hstack hW (by rw [hb]; exact hdg)
    (fun vm₁ hW₁ => ⟨hf.1, hf.2, hPc (T.setVm vm₁) hT hW₁⟩)
  dsimp only [Pt.U, Pt.locs, Pt.cells, Pt.slots] at X' e1 e2 h1 h2 h3 st
  subst h1; subst h2; subst h3
  exact ⟨v, (T.setVm vm₁).calling g' mk (Value.ref b :: As).toArray, t, U', L, hT, X', hL, e1, e2, hq, st⟩
section
variable {y : MethodName} {bytes cc : ByteArray} {maxL nL mc ms n index : Nat} {ret : Option FieldType} {ws : List Cond} {rm : Room} {Pc : Array Value → State → Prop} {Qc : Array Value → State → Outcome → State → Prop} {XC : String → State → State → Prop} {free : Addr → Prop} {Ts : List Cond} {own C : String} {b : Addr} {As rest : List Value} {g : JFrame}
theorem vx_runVX {hh : List (Nat × Nat × Nat × Nat)} (S : CallFix p m c cc nL s args Ts own) (hM : vx_Met l y ws rm Pc Qc XC mc ms free) (cw : vx_CVW R s args own C index y bytes maxL ret hh ws rm mc ms n) (hp : PreV s H C b Pc As)
    (hg : g.method = m) (hn : As.length = n) (hsize : g.locals.size = nL) (hstack : g.stack = As.reverse ++ .ref b :: rest) (hW : 2 * g.monitorRoom + (rest.map fun v => v.category).sum ≤ 8) (hdg : decode cc g.pc = .ok (.invokevirtual index, 3)) (hf : cells + mc ≤ R.cells ∧ slots + ms ≤ R.slots) :
    vx_Run p l e R s m args below meth c H locs cells slots mc ms g rest (Qc (Value.ref b :: As).toArray) XC free := by
  obtain ⟨⟨hrc, hrs, hfr, hlo, hws, hcw⟩, hcode, hini, hy, hlen, hl, hin, hse⟩ := cw
  have hK : vx_Back l R p e below s args y 3 8 (PreOf R mc ms Pc) (PostOf Qc mc ms free) (vx_Post XC mc ms free) := vx_backW (hh := hh) (bytes := bytes) (maxL := maxL) (ret := ret) hM hp.1 hrc hrs hfr hlo hws hcw (fun a' U hW => word_at hW (Or.inl (by first | rfl | simp [Cond.onTables, Cond.keeps, Cond.steady])) hini)
  obtain ⟨hx, hb, hml, ho, -⟩ := S
  obtain ⟨-, ⟨cellB, hcB, hoB, hclB⟩, hPc⟩ := hp
  intro T hT X
  rcases vx_callVX X hx (C := C) (hh := hh) (bytes := bytes) (maxL := maxL) (ret := ret) ho hl hin hse hcode hy hK (by rw [hT]; exact hcB) hoB hclB hg (hsize.trans hml.symm) (argsL := As) (rest := rest) (fun sig h => hn.trans (hlen sig h)) hstack hW (by rw [hb]; exact hdg)
    (fun vm₁ hW₁ => ⟨hf.1, hf.2, hPc (T.setVm vm₁) hT hW₁⟩) with ⟨v, vm₁, ⟨U', l2, c2, s2⟩, hW₁, X', ⟨g', mk, t, L, e1, e2, hq, h1, hL, h2, h3⟩, st⟩ | ⟨q, vm₁, ⟨U', l2, c2, s2⟩, hW₁, X', ⟨g', mk, t, L, E, ce, e1, e2, hq, hce, hcv, hcl, h1, hL, h2, h3⟩, st⟩
  · dsimp only [Pt.U, Pt.locs, Pt.cells, Pt.slots] at X' e1 e2 h1 h2 h3 st
    subst h1; subst h2; subst h3
    exact Or.inl ⟨v, (T.setVm vm₁).calling g' mk (Value.ref b :: As).toArray, t, U', L, hT, X', hL, e1, e2, hq, st⟩
  · dsimp only [Pt.U, Pt.locs, Pt.cells, Pt.slots] at X' e1 e2 h1 h2 h3 st hcl
    subst h1; subst h2; subst h3
    exact Or.inr ⟨q, (T.setVm vm₁).calling g' mk (Value.ref b :: As).toArray, t, U', L, E, ce, hT, X', hL, e1, e2, hq, hce, hcv, vx_cls hW₁ hcl, st⟩
theorem vx_runSX {hh : List (Nat × Nat × Nat × Nat)} (S : CallFix p m c cc nL s args Ts own) (hM : vx_Met l y ws rm Pc Qc XC mc ms free) (cw : vx_CSW R s args own index y bytes maxL ret hh ws rm mc ms n) (hp : PreS s H Pc As)
    (hg : g.method = m) (hn : As.length = n) (hsize : g.locals.size = nL) (hstack : g.stack = As.reverse ++ rest) (hW : 2 * g.monitorRoom + (rest.map fun v => v.category).sum ≤ 8) (hdg : decode cc g.pc = .ok (.invokestatic index, 3)) (hf : cells + mc ≤ R.cells ∧ slots + ms ≤ R.slots) :
    vx_Run p l e R s m args below meth c H locs cells slots mc ms g rest (Qc As.toArray) XC free := by
  obtain ⟨⟨hrc, hrs, hfr, hlo, hws, hcw⟩, hcode, hini, hy, hlen, hl, hstt⟩ := cw
  have hK : vx_Back l R p e below s args y 3 8 (PreOf R mc ms Pc) (PostOf Qc mc ms free) (vx_Post XC mc ms free) := vx_backW (hh := hh) (bytes := bytes) (maxL := maxL) (ret := ret) hM hp.1 hrc hrs hfr hlo hws hcw (fun a' U hW => word_at hW (Or.inl (by first | rfl | simp [Cond.onTables, Cond.keeps, Cond.steady])) hini)
  obtain ⟨hx, hb, hml, ho, -⟩ := S
  intro T hT X
  rcases vx_callSX X hx (hh := hh) (bytes := bytes) (maxL := maxL) (ret := ret) ho hl hstt hini hcode hy hK hg (hsize.trans hml.symm) (argsL := As) (rest := rest) (fun sig h => hn.trans (hlen sig h)) hstack hW (by rw [hb]; exact hdg)
    (fun vm₁ hW₁ => ⟨hf.1, hf.2, hp.2 (T.setVm vm₁) hT hW₁⟩) with ⟨v, vm₁, ⟨U', l2, c2, s2⟩, hW₁, X', ⟨g', mk, t, L, e1, e2, hq, h1, hL, h2, h3⟩, st⟩ | ⟨q, vm₁, ⟨U', l2, c2, s2⟩, hW₁, X', ⟨g', mk, t, L, E, ce, e1, e2, hq, hce, hcv, hcl, h1, hL, h2, h3⟩, st⟩
  · dsimp only [Pt.U, Pt.locs, Pt.cells, Pt.slots] at X' e1 e2 h1 h2 h3 st
    subst h1; subst h2; subst h3
    exact Or.inl ⟨v, (T.setVm vm₁).calling g' mk As.toArray, t, U', L, hT, X', hL, e1, e2, hq, st⟩
  · dsimp only [Pt.U, Pt.locs, Pt.cells, Pt.slots] at X' e1 e2 h1 h2 h3 st hcl
    subst h1; subst h2; subst h3
    exact Or.inr ⟨q, (T.setVm vm₁).calling g' mk As.toArray, t, U', L, E, ce, hT, X', hL, e1, e2, hq, hce, hcv, vx_cls hW₁ hcl, st⟩
end
end VXH
theorem vx_ofWH {l : Launch} {y : MethodName} {ws ws' : List Cond} {rm : Room} {Pc : Array Value → State → Prop} {Qc : Array Value → State → Outcome → State → Prop} {XC : String → State → State → Prop} {mc ms : Nat} {free : Addr → Prop} {cc : ByteArray} {maxL : Nat} {ret : Option FieldType} {hh : List (Nat × Nat × Nat × Nat)}
    (hy : plainName y.cls = true) (hw : ws = Cond.codeWith y cc maxL ret hh :: ws')
    (body : ∀ p e s m args below meth c s₁, BodyLoose p l y (headSpec ws rm) cc maxL ret e s m args below meth c s₁ → c.maxLocals = maxL → Pc args s →
      W p l e (headSpec ws rm).room s m args below meth c s.heap [] 0 0 (vx_MQ below Qc XC args s mc ms free) (entryFrame m args maxL)) : vx_Met l y ws rm Pc Qc XC mc ms free := by
  refine MetFree.of_bodyS (code := cc) (maxLocals := maxL) (ret := ret) hy ?_ ?_
  · intro args s m h hn
    obtain ⟨m9, meth, c, hn9, h1, h2, h3, h4, -, h5, h6, -⟩ := Cond.codeWith_spec (atoms_spec (ws := ws) h _ (by rw [hw]; exact List.mem_cons_self))
    cases hn.symm.trans hn9
    exact ⟨meth, c, h1, h2, h3, h4, h5, h6⟩
  · intro p e s m args below meth c s₁ B hml hP _
    have hh0 : s₁.heap = s.heap := by rw [B.state]; rfl
    obtain ⟨t, a1, o, b1, b2, b3⟩ := body p e s m args below meth c s₁ B hml hP s₁ hh0 (Stand.of_body B)
    exact ⟨t, o, a1, b1, b2, b3⟩
/-! ===== END ===== -/
/-! ===== BEGIN what the machine throws by itself, no traces kept ===== -/
section VXM
set_option maxHeartbeats 1000000 in
/-- the machine throws cls with the message text, no traces kept: from its note over the frame g to 'throwing' over the same frame (follows the proofs of Stand.vmThrowsMessage, Shelf/KitTracedVmS.lean, and Stand.throwsMessageColdBareV, StandMessageColdV.lean, without the step out of the frame) -/
theorem vx_vmAt {p : Program} {l : Launch} {e : Env} {R : Room} {s : State} {m₀ : MethodId} {args : Array Value} {below : List Frame} {meth : Method} {c : Code} {W : State} {locs : List Loc} {cells slots : Nat}
    (X : Stand p l e R s m₀ args below meth c W locs cells slots) (hexec : p.tables.exec = Jvm.exec) (htr : e.platform.stackTraces = false) {cls : String} {names : List String} {text : String}
    (hcls : Bundle.fit cls = true) (hnames : ∀ n ∈ names, Bundle.fit n = true) (hsoe : (cls == "java/lang/StackOverflowError") = false) (hoom : (cls == "java/lang/OutOfMemoryError") = false)
    (h : ∀ a ∈ Bundle.messageArmAtoms cls names, a.before args s = true)
    (hlocs : ∀ x ∈ locs, ∀ cell, s.heap[x.base]? = some cell → cell.vm.isStatics = false)
    (htext : (text == notModelled) = false) (hlimit : ¬ (stringBytes (stringToUtf16 text)).size > e.platform.arrayLengthLimit) (hheap : ¬ (stringBytes (stringToUtf16 text)).size * componentBytes .byte > e.platform.maxHeapBytes)
    {g : JFrame} (hg : g.method = m₀) (hsize : g.locals.size = c.maxLocals)
    (hRframes : names.length + 4 < R.frames) (hRlocals : 2 * g.monitorRoom + (g.stack.map fun v => v.category).sum + 10240 ≤ R.locals) (hshort : 13 * names.length + 55 ≤ 10240)
    (hRcells : cells + 3 ≤ R.cells) (hRslots : slots + ((stringBytes (stringToUtf16 text)).size + 4 + 6) ≤ R.slots) (hlocks : meth.locks = false) :
    ∃ (S : State) (q : Addr) (ce : Cell), (∀ target, Steps p.tables e below ((S.setTop g).pushFrame (.throwing q)) target → Steps p.tables e below ((W.setTop g).pushFrame (.throwNew cls (some text) none)) target) ∧
      Stand p l e R s m₀ args below meth c S locs (cells + 3) (slots + ((stringBytes (stringToUtf16 text)).size + 4 + 6)) ∧ S.heap[q]? = some ce ∧ s.vm.findClass cls = some ce.cls ∧ ce.vm = .none := by
  have howns : e.platform.frameOwnsMonitors = true := by rw [X.admits.platform]
  have hfin : e.platform.finalization = false := by rw [X.admits.platform]
  have hpl : e.platform.magicAccessors = ({} : Platform).magicAccessors := by rw [X.admits.platform]
  have a : ∀ x, x ∈ Bundle.messageArmAtoms cls names → x.holds args s none s [] = true := fun x hx => h x hx
  obtain ⟨T, Z0, L, -, Y⟩ := ThrowableC.of_atoms (args := args) howns hfin hpl (fun x hx => h x (by simp [Bundle.messageArmAtoms, hx]))
  obtain ⟨Z, M, LZ, LM, hnZ⟩ := Init0T.ofS_atoms (args := args) hpl L Y (fun x hx => h x (by simp [Bundle.messageArmAtoms, hx]))
  obtain ⟨P1, Ps, hlen, L1, hL, hP1m, hlink1, hlink⟩ := Bundle.chainS (args := args) hpl hnZ names cls hcls hnames (fun x hx => h x (by simp [Bundle.messageArmAtoms, hx]))
  obtain ⟨Zs, LZs, hn4, hfitv, hfitc⟩ := StringT.of_atoms (args := args) (fun x hx => h x (by simp [Bundle.messageArmAtoms, hx]))
  have hfound : s.vm.findClass cls = some P1.m.cls := findClass_of_methodNamed hP1m
  obtain ⟨c1, kX, hc1, hk, hord, -, -, hn6⟩ := Cond.instantiable_spec (a (.instantiable cls 6) (by simp [Bundle.messageArmAtoms]))
  cases Option.some.inj (hc1.symm.trans hfound)
  have hinit := Cond.initialized_spec hfound hk (a (.initialized cls) (by simp [Bundle.messageArmAtoms]))
  have hctor : kX.findMethod "<init>" "(Ljava/lang/String;)V" = some P1.m.idx := findMethod_of_methodNamed hP1m hk
  have hsel0 : selectMethod e.platform s.vm P1.m.cls T.fill0 = .method T.fill0 := by
    obtain ⟨c2, r2, m2, q1, q2, q3, q4, -⟩ := Cond.selects_spec (a (.selects cls Bundle.tFill0 Bundle.tFill0) (by simp [Bundle.messageArmAtoms]))
    cases Option.some.inj (q1.symm.trans hfound)
    cases Option.some.inj (q2.symm.trans (State.methodFound?_of_named Y.fill0 (by decide)))
    cases Option.some.inj (q3.symm.trans Y.fill0)
    rw [Launch.admits_selectMethod X.admits]; exact q4
  have hselF : selectMethod e.platform s.vm P1.m.cls T.fill = .method T.fill := by
    obtain ⟨c2, r2, m2, q1, q2, q3, q4, -⟩ := Cond.selects_spec (a (.selects cls Bundle.tFill Bundle.tFill) (by simp [Bundle.messageArmAtoms]))
    cases Option.some.inj (q1.symm.trans hfound)
    cases Option.some.inj (q2.symm.trans (State.methodFound?_of_named Y.fill (by decide)))
    cases Option.some.inj (q3.symm.trans Y.fill)
    rw [Launch.admits_selectMethod X.admits]; exact q4
  obtain ⟨cellS0, hcS0, hiss⟩ := Y.statics
  obtain ⟨u0, hu0⟩ := Cond.staticRefV Y.unassigned L.unassignedStatic L.statics hcS0 hiss (a (.isRef (.static Bundle.tN "UNASSIGNED_STACK" Bundle.steD)) (by simp [Bundle.messageArmAtoms]))
  obtain ⟨sen, hsen⟩ := Cond.staticRefV Y.sentinel L.sentinelStatic L.statics hcS0 hiss (a (.isRef (.static Bundle.tN "SUPPRESSED_SENTINEL" Bundle.listD)) (by simp [Bundle.messageArmAtoms]))
  obtain ⟨ci198, i198, fB, hk198, hg198, ha198, hsB, -, hnB, htB, hffB⟩ := Cond.ownField (t := .object "java/lang/Object") Y.found L.cls (by decide +kernel) (a (.fieldLink Bundle.tN 198 Bundle.tN "backtrace" "Ljava/lang/Object;") (by simp [Bundle.messageArmAtoms])) (a (.lays Bundle.tN Bundle.tN "backtrace" "Ljava/lang/Object;") (by simp [Bundle.messageArmAtoms])) e.platform hpl
  obtain ⟨cellS, hcS', heS, -, hkeep⟩ := X.same.2.2.2.2.2 T.aS cellS0 hcS0
  have hcellS : W.heap[T.aS]? = some cellS := hcS'
  have hout' : ∀ i, (⟨T.aS, i⟩ : Loc) ∉ locs := fun i hmem => by
    have := hlocs _ hmem cellS0 hcS0
    rw [hiss] at this; cases this
  have hknownS : cellS.vm ≠ .unknown := by
    rw [heS]; intro hu
    rw [show cellS0.vm = .unknown from hu] at hiss
    cases hiss
  have hvU : cellS.slots[T.fUnassigned.slot]? = some u0.v := by rw [hkeep _ (hout' _)]; exact hu0
  have hvSen : cellS.slots[T.fSentinel.slot]? = some sen.v := by rw [hkeep _ (hout' _)]; exact hsen
  obtain ⟨iM, hffM⟩ := Y.msg
  obtain ⟨tyC, dC, hdC, hdnC⟩ := Cond.laysAt hfound hk Y.cause (a (.lays cls Bundle.tN "cause" "Ljava/lang/Throwable;") (by simp [Bundle.messageArmAtoms]))
  obtain ⟨tyS, dS, hdS, hdnS⟩ := Cond.laysAt hfound hk Y.stack (a (.lays cls Bundle.tN "stackTrace" Bundle.steD) (by simp [Bundle.messageArmAtoms]))
  obtain ⟨tyP, dP, hdP, hdnP⟩ := Cond.laysAt hfound hk Y.supp (a (.lays cls Bundle.tN "suppressedExceptions" Bundle.listD) (by simp [Bundle.messageArmAtoms]))
  obtain ⟨tyM, dM, hdM, hdnM⟩ := Cond.laysAt hfound hk hffM (a (.lays cls Bundle.tN "detailMessage" "Ljava/lang/String;") (by simp [Bundle.messageArmAtoms]))
  obtain ⟨tyB, dB, hdB, hdnB⟩ := Cond.laysAt hfound hk hffB (a (.lays cls Bundle.tN "backtrace" "Ljava/lang/Object;") (by simp [Bundle.messageArmAtoms]))
  have bC := Cond.laysApart hdB hdC hdnB hdnC (by rw [hnB, Y.causeName]; decide)
  have bS := Cond.laysApart hdB hdS hdnB hdnS (by rw [hnB, Y.stackName]; decide)
  have bP := Cond.laysApart hdB hdP hdnB hdnP (by rw [hnB, Y.suppName]; decide)
  have hbk : ((preparedCellV T.toThrowableT (freshCell P1.m.cls kX) (W.heap.size + 2) u0 sen).withEntry W.cur).slots[fB.slot]? = some .null := by
    have := fresh_default (c := P1.m.cls) tyB
    rw [htB] at this
    simpa [preparedCellV, Cell.setSlot, Cell.withEntry, Array.getElem?_setIfInBounds, bC, bS, bP, bC.symm, bS.symm, bP.symm, defaultValue] using this
  have tkC := Takes.of_laid (v := .ref (W.heap.size + 2)) hk hord tyC (by rw [Y.causeType]; rfl)
  have tkS := Takes.of_laid (v := u0.v) hk hord tyS (by rw [Y.stackType]; exact fits_refV_array _ u0)
  have tkP := Takes.of_laid (v := sen.v) hk hord tyP (by rw [Y.suppType]; exact fits_refV_object _ sen)
  have tkM := Takes.of_laid (v := .ref (W.heap.size + 1)) hk hord tyM (by rw [Y.msgType]; rfl)
  have hskip : SkipFacts T e.platform s (fun u => u) u0 ((preparedCellV T.toThrowableT (freshCell P1.m.cls kX) (W.heap.size + 2) u0 sen).withEntry W.cur) := ⟨{ ci198 := ci198, i198 := i198, fBack := fB }, ⟨hk198, hg198, ha198, hsB⟩, hbk, fun _ _ => rfl⟩
  have h0 : At W g.method c below := by rw [hg]; exact X.here
  obtain ⟨hbeyond, hfreeW⟩ := X.vmMayThrow hsize (.throwNew cls (some text) none) (fun f hf => by cases hf) rfl hRlocals
  have hfr' : W.frames.length + Ps.length + 4 < (e.platform.stackLimits W.me).1 := by have := X.framesAbove hRframes; omega
  have hwd' : (stackUse (.java g :: W.frames.tail)).2 + 13 * Ps.length + 55 ≤ (e.platform.stackLimits W.me).2 := by have := X.stackAbove hsize (K := 13 * Ps.length + 55) (by omega); omega
  have hslots : W.slotsUsed + (stringBytes (stringToUtf16 text)).size + Zs.kS.instanceTypes.size + kX.instanceTypes.size ≤ e.platform.maxSlots := by
    have := X.slotsAbove hRslots
    rw [hn4, hn6]
    omega
  obtain ⟨vm', hW', st⟩ := Steps.vmThrowsMessageColdByV p (s₀ := s) (S := W) (g := g) h0 hexec T L Z LZ M LM X.warmed (t := W.cur) rfl Zs LZs P1 L1 Ps hL hlink1 hlink hsoe hoom hfound hk hinit hord hctor
    (Launch.admits_hotImplicitExceptions X.admits) hbeyond hfreeW htext hlimit hheap (X.cellsAbove hRcells) hslots (hfitv _) (hfitc _)
    (Nn := fun u => u) heapOnly_id (fun _ _ => rfl) (fun _ => rfl) (fun u x y => setCell_twice _ _ _ _) (fun _ => Nat.le_refl _) (cN := ((preparedCellV T.toThrowableT (freshCell P1.m.cls kX) (W.heap.size + 2) u0 sen).withEntry W.cur))
    hsel0 hcellS hknownS hvU tkS (fun _ hu => hu) (fun _ hu => hu) rfl rfl rfl (by simp [preparedCellV, Cell.setSlot, Cell.withEntry]) hskip (fun _ _ hA hW _ hroom _ hrest => L.nativeOff p htr hA hW hroom hrest) hselF hvSen tkC tkP tkM Y.objLocals rfl hfr' hwd'
  rw [plainBareV_eq T.toThrowableT (W.heap.size + 2) u0 sen (.ref (W.heap.size + 1)) W.cur rfl rfl] at st
  obtain ⟨-, -, w3, w4, -, -, -⟩ := withThrown_facts e.platform W Zs text P1.m.cls kX
  have X3 := ((X.pushed (bytesOf Zs.cB (stringToUtf16 text))).pushed (stringAt Zs.cS Zs.kS Zs.fv Zs.fc (stringToUtf16 text) W.heap.size)).pushed (freshCell P1.m.cls kX)
  rw [← withString_eq] at X3
  have X4 := X3.noted hW'
  have ha : (W.heap.size + 2) < ((withThrown W Zs text P1.m.cls kX).setVm vm').heap.size := by show _ < (withThrown W Zs text P1.m.cls kX).heap.size; rw [w3]; omega
  have hcell : ((withThrown W Zs text P1.m.cls kX).setVm vm').heap[(W.heap.size + 2)]? = some (freshCell P1.m.cls kX) := w4
  have X5 := ((((X4.stored hcell T.fCause.slot (.ref (W.heap.size + 2))).storedAgain ha T.fStack.slot u0.v).storedAgain ha T.fSupp.slot sen.v).storedAgain ha T.fStack.slot u0.v).storedAgain ha T.fMsg.slot (.ref (W.heap.size + 1))
  obtain ⟨g₁, hfrM⟩ := X5.frames_eq
  have hU : ((((withThrown W Zs text P1.m.cls kX).setVm vm').setCell (W.heap.size + 2) (plainBareV T.toThrowableT (freshCell P1.m.cls kX) (W.heap.size + 2) u0 sen (.ref (W.heap.size + 1)))).setTop g).pushFrame (.throwing (W.heap.size + 2)) = (((withThrown W Zs text P1.m.cls kX).setVm vm').setCell (W.heap.size + 2) (plainBareV T.toThrowableT (freshCell P1.m.cls kX) (W.heap.size + 2) u0 sen (.ref (W.heap.size + 1)))).setFrames (.throwing (W.heap.size + 2) :: .java g :: below) := by
    rw [State.pushFrame, State.frames_setTop _ hfrM, State.setTop_of_frames _ hfrM, State.setFrames_setFrames]
  have b1 : (bytesOf Zs.cB (stringToUtf16 text)).slots.size = (stringBytes (stringToUtf16 text)).size := by
    rw [(Cell.writeAll_facts _ _).2.2]; simp [bytes0]
  have b2 : (stringAt Zs.cS Zs.kS Zs.fv Zs.fc (stringToUtf16 text) W.heap.size).slots.size = 4 := by simp [string0, Cell.setSlot, hn4]
  have b3 : (freshCell P1.m.cls kX).slots.size = 6 := by simp [hn6]
  rw [b1, b2, b3] at X5
  have e9 : slots + (stringBytes (stringToUtf16 text)).size + 4 + 6 = slots + ((stringBytes (stringToUtf16 text)).size + 4 + 6) := by omega
  rw [e9] at X5
  simp only [List.append_assoc, List.cons_append, List.nil_append] at X5
  refine ⟨((withThrown W Zs text P1.m.cls kX).setVm vm').setCell (W.heap.size + 2) (plainBareV T.toThrowableT (freshCell P1.m.cls kX) (W.heap.size + 2) u0 sen (.ref (W.heap.size + 1))), W.heap.size + 2, _, fun target ht => st _ (by rw [X.tail, ← hU]; exact ht),
    X5.forget (fun y hy => ?_), heapAt_setCell_self _ ha, hfound, rfl⟩
  simp only [List.mem_cons, List.not_mem_nil, or_false] at hy
  have hge : s.heap.size ≤ W.heap.size := X.same.2.1
  rcases hy with rfl | rfl | rfl | rfl | rfl <;> exact Nat.le_trans hge (Nat.le_add_right _ 2)
set_option maxHeartbeats 1000000 in
/-- the machine throws NullPointerException, no traces kept: from its note over the frame g to 'throwing' over the same frame (follows the proof of Stand.vmThrowsNpe, Shelf42/KT2.lean; throwsNpeColdBareVAt, Shelf42/NT91.lean, called) -/
theorem vx_npeAt {p : Program} {l : Launch} {e : Env} {R : Room} {s : State} {m₀ : MethodId} {args : Array Value} {below : List Frame} {meth : Method} {c : Code} {W : State} {locs : List Loc} {cells slots : Nat}
    (X : Stand p l e R s m₀ args below meth c W locs cells slots) (hexec : p.tables.exec = Jvm.exec) (htr : e.platform.stackTraces = false) {n : Nat}
    (h : ∀ a ∈ Bundle.npeArmAtoms n, a.before args s = true)
    (hlocs : ∀ x ∈ locs, ∀ cell, s.heap[x.base]? = some cell → cell.vm.isStatics = false)
    {g : JFrame} (hg : g.method = m₀) (hsize : g.locals.size = c.maxLocals)
    (hRframes : 7 < R.frames) (hRlocals : 2 * g.monitorRoom + (g.stack.map fun v => v.category).sum + 10240 ≤ R.locals)
    (hRcells : cells + 1 ≤ R.cells) (hRslots : slots + n ≤ R.slots) (hlocks : meth.locks = false) :
    ∃ (S : State) (q : Addr) (ce : Cell), (∀ target, Steps p.tables e below ((S.setTop g).pushFrame (.throwing q)) target → Steps p.tables e below ((W.setTop g).pushFrame (.throwNew "java/lang/NullPointerException" none none)) target) ∧
      Stand p l e R s m₀ args below meth c S locs (cells + 1) (slots + n) ∧ S.heap[q]? = some ce ∧ s.vm.findClass "java/lang/NullPointerException" = some ce.cls ∧ ce.vm = .none := by
  have howns : e.platform.frameOwnsMonitors = true := by rw [X.admits.platform]
  have hfin : e.platform.finalization = false := by rw [X.admits.platform]
  have hpl : e.platform.magicAccessors = ({} : Platform).magicAccessors := by rw [X.admits.platform]
  have hpl2 : e.platform.arrayCloneIsPublic = true := by rw [X.admits.platform]
  have a' : ∀ x, x ∈ Bundle.npeArmAtoms n → x.holds args s none s [] = true := fun x hx => h x hx
  obtain ⟨T, Z, L, LZ, Y⟩ := ThrowableC.of_atoms (args := args) howns hfin hpl (fun x hx => h x (by simp [Bundle.npeArmAtoms, hx]))
  obtain ⟨N, LN, hcN, hnNF, hordN, hffS⟩ := NpeC.of_atoms (args := args) hpl hpl2 L Y (fun x hx => h x (by simp [Bundle.npeArmAtoms, hx]))
  obtain ⟨P1, L1, hP1m, hP1s⟩ := PassC.of_atoms (args := args) (s := s) hpl (X := Bundle.nN) (Y := Bundle.rN) (by decide) (by decide) LibCode.NullPointerException.Init0.at_0 LibCode.NullPointerException.Init0.at_1 LibCode.NullPointerException.Init0.at_4 (fun x hx => h x (by simp [Bundle.npeArmAtoms, hx]))
  obtain ⟨PR, LR, hPRm, hPRs⟩ := PassC.of_atoms (args := args) (s := s) hpl (X := Bundle.rN) (Y := Bundle.eN) (by decide) (by decide) LibCode.RuntimeException.Init0.at_0 LibCode.RuntimeException.Init0.at_1 LibCode.RuntimeException.Init0.at_4 (fun x hx => h x (by simp [Bundle.npeArmAtoms, hx]))
  obtain ⟨PE, LEx, hPEm, hPEs⟩ := PassC.of_atoms (args := args) (s := s) hpl (X := Bundle.eN) (Y := Bundle.tN) (by decide) (by decide) LibCode.Exception.Init0.at_0 LibCode.Exception.Init0.at_1 LibCode.Exception.Init0.at_4 (fun x hx => h x (by simp [Bundle.npeArmAtoms, hx]))
  have hfound : s.vm.findClass Bundle.nN = some P1.m.cls := findClass_of_methodNamed hP1m
  have ecls : N.cN = P1.m.cls := Option.some.inj (hcN.symm.trans hfound)
  have hk : s.vm.classes[P1.m.cls]? = some N.kN := by rw [← ecls]; exact LN.cls
  have hinit := Cond.initialized_spec hfound hk (a' (.initialized Bundle.nN) (by simp [Bundle.npeArmAtoms]))
  have hctor : N.kN.findMethod "<init>" "()V" = some P1.m.idx := findMethod_of_methodNamed hP1m hk
  obtain ⟨c1, k1, hc1, hk1, -, -, -, hn⟩ := Cond.instantiable_spec (a' (.instantiable Bundle.nN n) (by simp [Bundle.npeArmAtoms]))
  cases Option.some.inj (hc1.symm.trans hfound)
  cases Option.some.inj (hk1.symm.trans hk)
  have hfsz : (freshCell P1.m.cls N.kN).slots.size = n := by simp [hn]
  have hlink1 : P1.sup = PR.m := Option.some.inj (hP1s.symm.trans hPRm)
  have hlinkR : PR.sup = PE.m := Option.some.inj (hPRs.symm.trans hPEm)
  have hlinkE : PE.sup = Z.m T.toThrowableT := Option.some.inj (hPEs.symm.trans Y.init0)
  have hLs : ∀ P, P ∈ [PR, PE] → P.Links0 e.platform s := fun P hP => by
    simp only [List.mem_cons, List.not_mem_nil, or_false] at hP
    rcases hP with rfl | rfl
    · exact LR
    · exact LEx
  have hsel0 : selectMethod e.platform s.vm P1.m.cls T.fill0 = .method T.fill0 := by
    obtain ⟨c2, r2, m2, q1, q2, q3, q4, -⟩ := Cond.selects_spec (a' (.selects Bundle.nN Bundle.tFill0 Bundle.tFill0) (by simp [Bundle.npeArmAtoms]))
    cases Option.some.inj (q1.symm.trans hfound)
    cases Option.some.inj (q2.symm.trans (State.methodFound?_of_named Y.fill0 (by decide)))
    cases Option.some.inj (q3.symm.trans Y.fill0)
    rw [Launch.admits_selectMethod X.admits]; exact q4
  have hselF : selectMethod e.platform s.vm P1.m.cls T.fill = .method N.fill := by
    obtain ⟨c2, r2, m2, q1, q2, q3, q4, -⟩ := Cond.selects_spec (a' (.selects Bundle.nN Bundle.tFill Bundle.nFill) (by simp [Bundle.npeArmAtoms]))
    cases Option.some.inj (q1.symm.trans hfound)
    cases Option.some.inj (q2.symm.trans (State.methodFound?_of_named Y.fill (by decide)))
    cases Option.some.inj (q3.symm.trans hnNF)
    rw [Launch.admits_selectMethod X.admits]; exact q4
  obtain ⟨cellS0, hcS0, hiss⟩ := Y.statics
  obtain ⟨u0, hu0⟩ := Cond.staticRefV Y.unassigned L.unassignedStatic L.statics hcS0 hiss (a' (.isRef (.static Bundle.tN "UNASSIGNED_STACK" Bundle.steD)) (by simp [Bundle.npeArmAtoms]))
  obtain ⟨sen, hsen⟩ := Cond.staticRefV Y.sentinel L.sentinelStatic L.statics hcS0 hiss (a' (.isRef (.static Bundle.tN "SUPPRESSED_SENTINEL" Bundle.listD)) (by simp [Bundle.npeArmAtoms]))
  obtain ⟨ci198, i198, fB, hk198, hg198, ha198, hsB, -, hnB, htB, hffB⟩ := Cond.ownField (t := .object "java/lang/Object") Y.found L.cls (by decide +kernel) (a' (.fieldLink Bundle.tN 198 Bundle.tN "backtrace" Bundle.objD) (by simp [Bundle.npeArmAtoms])) (a' (.lays Bundle.tN Bundle.tN "backtrace" Bundle.objD) (by simp [Bundle.npeArmAtoms])) e.platform hpl
  obtain ⟨cellS, hcS', heS, -, hkeep⟩ := X.same.2.2.2.2.2 T.aS cellS0 hcS0
  have hcellS : W.heap[T.aS]? = some cellS := hcS'
  have hout' : ∀ i, (⟨T.aS, i⟩ : Loc) ∉ locs := fun i hmem => by
    have := hlocs _ hmem cellS0 hcS0
    rw [hiss] at this; cases this
  have hknownS : cellS.vm ≠ .unknown := by
    rw [heS]; intro hu
    rw [show cellS0.vm = .unknown from hu] at hiss
    cases hiss
  have hvU : cellS.slots[T.fUnassigned.slot]? = some u0.v := by rw [hkeep _ (hout' _)]; exact hu0
  have hvSen : cellS.slots[T.fSentinel.slot]? = some sen.v := by rw [hkeep _ (hout' _)]; exact hsen
  obtain ⟨tyC, dC, hdC, hdnC⟩ := Cond.laysAt hfound hk Y.cause (a' (.lays Bundle.nN Bundle.tN "cause" "Ljava/lang/Throwable;") (by simp [Bundle.npeArmAtoms]))
  obtain ⟨tyS, dS, hdS, hdnS⟩ := Cond.laysAt hfound hk Y.stack (a' (.lays Bundle.nN Bundle.tN "stackTrace" Bundle.steD) (by simp [Bundle.npeArmAtoms]))
  obtain ⟨tyP, dP, hdP, hdnP⟩ := Cond.laysAt hfound hk Y.supp (a' (.lays Bundle.nN Bundle.tN "suppressedExceptions" Bundle.listD) (by simp [Bundle.npeArmAtoms]))
  obtain ⟨tyX, dX, hdX, hdnX⟩ := Cond.laysAt hfound hk hffS (a' (.lays Bundle.nN Bundle.nN "extendedMessageState" "I") (by simp [Bundle.npeArmAtoms, Bundle.npeAtoms]))
  obtain ⟨hnX, htX⟩ := State.fieldFound?_type hffS (t := .int) (by decide +kernel)
  have xC := Cond.laysApart hdC hdX hdnC hdnX (by rw [hnX, Y.causeName]; decide)
  have xS := Cond.laysApart hdS hdX hdnS hdnX (by rw [hnX, Y.stackName]; decide)
  have xP := Cond.laysApart hdP hdX hdnP hdnX (by rw [hnX, Y.suppName]; decide)
  have hv0 : (freshCell P1.m.cls N.kN).slots[N.fState.slot]? = some (.int 0) := by
    have := fresh_default (c := P1.m.cls) tyX
    rw [htX] at this; exact this
  obtain ⟨tyB, dB, hdB, hdnB⟩ := Cond.laysAt hfound hk hffB (a' (.lays Bundle.nN Bundle.tN "backtrace" Bundle.objD) (by simp [Bundle.npeArmAtoms]))
  have bC := Cond.laysApart hdB hdC hdnB hdnC (by rw [hnB, Y.causeName]; decide)
  have bS := Cond.laysApart hdB hdS hdnB hdnS (by rw [hnB, Y.stackName]; decide)
  have bP := Cond.laysApart hdB hdP hdnB hdnP (by rw [hnB, Y.suppName]; decide)
  have bX := Cond.laysApart hdB hdX hdnB hdnX (by rw [hnB, hnX]; decide)
  have hbk : ((npeCell N.toNpeT (preparedCellV T.toThrowableT (freshCell P1.m.cls N.kN) W.heap.size u0 sen) W.cur).withEntry W.cur).slots[fB.slot]? = some .null := by
    have := fresh_default (c := P1.m.cls) tyB
    rw [htB] at this
    simpa [npeCell, preparedCellV, Cell.setSlot, Cell.withEntry, Array.getElem?_setIfInBounds, bC, bS, bP, bX, bC.symm, bS.symm, bP.symm, bX.symm, defaultValue] using this
  have tkC := Takes.of_laid (v := .ref W.heap.size) hk hordN tyC (by rw [Y.causeType]; rfl)
  have tkS := Takes.of_laid (v := u0.v) hk hordN tyS (by rw [Y.stackType]; exact fits_refV_array _ u0)
  have tkP := Takes.of_laid (v := sen.v) hk hordN tyP (by rw [Y.suppType]; exact fits_refV_object _ sen)
  have tkX := Takes.of_laid (v := .int 1) hk hordN tyX (by rw [htX]; rfl)
  have hskip : SkipFacts T e.platform s (fun u => u) u0 ((npeCell N.toNpeT (preparedCellV T.toThrowableT (freshCell P1.m.cls N.kN) W.heap.size u0 sen) W.cur).withEntry W.cur) := ⟨{ ci198 := ci198, i198 := i198, fBack := fB }, ⟨hk198, hg198, ha198, hsB⟩, hbk, fun _ _ => rfl⟩
  obtain ⟨vm', X3, st, -⟩ := X.throwsNpeColdBareVAt hexec hg hsize T L Z LZ N LN P1 L1 [PR, PE] hLs hlink1 ⟨hlinkR, hlinkE, trivial⟩ hfound hk hinit hordN hctor hsel0 hselF hcellS hknownS hvU hvSen
    hv0 xC xS xP tkC tkS tkP tkX Y.objLocals hskip (fun _ _ hA hW _ hroom _ hrest => L.nativeOff p htr hA hW hroom hrest) (by simpa using hRframes) hRlocals (by simp) hRcells (by rw [hn]; exact hRslots)
  have hlt : W.heap.size < ((W.pushCell (freshCell P1.m.cls N.kN)).setVm vm').heap.size := by
    show W.heap.size < (W.pushCell (freshCell P1.m.cls N.kN)).heap.size
    rw [State.heap_size_pushCell]; omega
  rw [hfsz] at X3
  obtain ⟨g₁, hfrM⟩ := X3.frames_eq
  have hU : ((((W.pushCell (freshCell P1.m.cls N.kN)).setVm vm').setCell W.heap.size (npeBareV T.toThrowableT N.toNpeT (freshCell P1.m.cls N.kN) W.heap.size u0 sen)).setTop g).pushFrame (.throwing W.heap.size) = (((W.pushCell (freshCell P1.m.cls N.kN)).setVm vm').setCell W.heap.size (npeBareV T.toThrowableT N.toNpeT (freshCell P1.m.cls N.kN) W.heap.size u0 sen)).setFrames (.throwing W.heap.size :: .java g :: below) := by
    rw [State.pushFrame, State.frames_setTop _ hfrM, State.setTop_of_frames _ hfrM, State.setFrames_setFrames]
  refine ⟨_, W.heap.size, _, fun target ht => st.trans (by rw [← hU]; exact ht), X3.forget (fun y hy => ?_), heapAt_setCell_self _ hlt, hfound, rfl⟩
  simp only [List.mem_cons, List.not_mem_nil, or_false] at hy
  have hge : s.heap.size ≤ W.heap.size := X.same.2.1
  rcases hy with rfl | rfl | rfl | rfl | rfl <;> exact hge
/-- the words of a machine's NullPointerException, but the four that speak of the heap -/
def vx_atN (n : Nat) : List Cond := (Bundle.npeArmAtoms n).filter vx_no
/-- the words of a machine's throw with a message, but the four that speak of the heap -/
def vx_atM (X : String) (names : List String) : List Cond := (Bundle.messageArmAtoms X names).filter vx_no
section
variable {p : Program} {l : Launch} {e : Env} {R : Room} {s : State} {m : MethodId} {args : Array Value} {below : List Frame} {meth : Method} {c : Code} {H : Heap} {locs : List Loc} {cells slots : Nat}
/-- a frame seen from a rebased start, seen from the first start again -/
theorem vx_back9 {T S : State} {R' : Room} {k n : Nat} (X : Stand p l e R s m args below meth c T locs cells slots) (Y : Stand p l e R' ((T.setVm s.vm).setFrames (.invoking m args :: below)) m args below meth c T [] 0 0) (Z : Stand p l e R' ((T.setVm s.vm).setFrames (.invoking m args :: below)) m args below meth c S [] k n) :
    Stand p l e R s m args below meth c S locs (cells + k) (slots + n) := by
  have hW0 : s.WarmedH ((T.setVm s.vm).setFrames (.invoking m args :: below)).vm := State.WarmedH.refl s
  refine { admits := X.admits, cas := X.cas, clock := X.clock, frames := X.frames, room := X.room, hears := X.hears, method := X.method, code := X.code, here := Z.here, tail := Z.tail, warmed := State.WarmedH.trans hW0 Z.warmed, limits := Z.limits.trans (Y.limits.symm.trans X.limits), bytes := Z.bytes.trans (Y.bytes.symm.trans X.bytes), same := ?_ }
  obtain ⟨e1, e2⟩ := Z.same
  rw [State.setFrames_setFrames] at e1
  have h2 : (T.setVm s.vm).sameButNew (S.setVm s.vm) [] k n := ⟨e1, e2⟩
  have h3 := X.same.trans h2
  rw [List.append_nil] at h3
  exact h3
/-- from the machine's note that E is thrown here with this text -/
def vx_Note (p : Program) (l : Launch) (e : Env) (R : Room) (s : State) (m : MethodId) (args : Array Value) (below : List Frame) (meth : Method) (c : Code) (H : Heap) (locs : List Loc) (cells slots : Nat) (Q : State → Prop) (g : JFrame) (E text : String) : Prop :=
  ∀ T : State, T.heap = H → Stand p l e R s m args below meth c T locs cells slots → ∃ t, Steps p.tables e below ((T.setTop g).pushFrame (.throwNew E (some text) none)) t ∧ Q t
theorem vx_vm {pc : Nat} {ls : Array Slot} {rest : List Value} {Q : State → Prop} (hexec : p.tables.exec = Jvm.exec) (hl : l.stackTraces = false) {cls text : String} {names : List String} {nb : Nat} {A : Nat → Prop}
    (hcls : Bundle.fit cls = true) (hnames : ∀ n ∈ names, Bundle.fit n = true) (hsoe : (cls == "java/lang/StackOverflowError") = false) (hoom : (cls == "java/lang/OutOfMemoryError") = false)
    (hat : ∀ w ∈ vx_atM cls names, w.before args s = true) (hgood : ∀ w ∈ vx_atM cls names, vx_ot w = true)
    (hU : vx_Zq Bundle.tN "UNASSIGNED_STACK" Bundle.steD A s s.heap) (hN : vx_Zq Bundle.tN "SUPPRESSED_SENTINEL" Bundle.listD A s s.heap) (hS : va_S A s.heap H locs) (hsize : ls.size = c.maxLocals)
    (htext : (text == notModelled) = false) (hnb : (stringBytes (stringToUtf16 text)).size ≤ nb) (hnb1 : nb ≤ 1000)
    (hRframes : names.length + 4 < R.frames) (hRlocals : (rest.map fun v => v.category).sum + 10240 ≤ R.locals) (hshort : 13 * names.length + 55 ≤ 10240) (hRcells : cells + 3 ≤ R.cells) (hRslots : slots + (nb + 10) ≤ R.slots) (hlocks : meth.locks = false)
    (k : ∀ (H1 : Heap) (q9 : Addr) (ce : Cell), H.size ≤ H1.size → (∀ q : Nat, q < H.size → H1[q]? = H[q]?) → va_S A s.heap H1 locs → H1[q9]? = some ce → ce.vm = .none → s.vm.findClass cls = some ce.cls → vx_W p l e R s m args below meth c H1 locs (cells + 3) (slots + (nb + 10)) Q (F0 m pc ls rest) q9) :
    vx_Note p l e R s m args below meth c H locs cells slots Q (F0 m pc ls rest) cls text := by
  intro T hT X
  have htr : e.platform.stackTraces = false := (show e.platform.stackTraces = l.stackTraces by rw [X.admits.platform]).trans hl
  have Y := vx_rebase X (R' := { frames := R.frames, locals := R.locals, cells := 3, slots := nb + 10 }) (Nat.le_refl _) (Nat.le_refl _) hRcells hRslots
  have hhp : ((T.setVm s.vm).setFrames (.invoking m args :: below)).heap = H := hT
  have hW0 : s.WarmedH ((T.setVm s.vm).setFrames (.invoking m args :: below)).vm := State.WarmedH.refl s
  have hat' : ∀ w ∈ vx_atM cls names, w.before args ((T.setVm s.vm).setFrames (.invoking m args :: below)) = true := fun w hw => vx_ot_at hW0 rfl (hgood w hw) (hat w hw)
  have hU' : vx_Zq Bundle.tN "UNASSIGNED_STACK" Bundle.steD A ((T.setVm s.vm).setFrames (.invoking m args :: below)) ((T.setVm s.vm).setFrames (.invoking m args :: below)).heap := by rw [hhp]; exact vx_Zq.moved hW0.alike (hU.kept hS.2.1)
  have hN' : vx_Zq Bundle.tN "SUPPRESSED_SENTINEL" Bundle.listD A ((T.setVm s.vm).setFrames (.invoking m args :: below)) ((T.setVm s.vm).setFrames (.invoking m args :: below)).heap := by rw [hhp]; exact vx_Zq.moved hW0.alike (hN.kept hS.2.1)
  obtain ⟨S, q, ce, st, Z, hce, hcl', hv⟩ := vx_vmAt Y hexec htr (cls := cls) (names := names) (text := text) hcls hnames hsoe hoom (vx_own hat' (vx_isRefq hU'.1) (vx_isRefq hN'.1) hU'.2.word hN'.2.word) (fun x hx => nomatch hx) htext
    (by rw [Launch.admits_arrayLengthLimit X.admits]; omega) (by rw [Launch.admits_maxHeapBytes X.admits]; simp only [componentBytes]; omega)
    (g := F0 m pc ls rest) rfl hsize hRframes (by show 2 * 0 + (rest.map fun v => v.category).sum + 10240 ≤ R.locals; omega) hshort (by show 0 + 3 ≤ 3; omega) (by show 0 + (_ + 4 + 6) ≤ nb + 10; omega) hlocks
  obtain ⟨f1, f2⟩ := vx_frame Z.same
  have f1' : H.size ≤ S.heap.size := by rw [← hT]; exact f1
  have f2' : ∀ q : Nat, q < H.size → S.heap[q]? = H[q]? := fun q hq => by
    rw [← hT]
    exact f2 q (by rw [← hT] at hq; exact hq) (fun z hz => nomatch hz)
  have X5 := vx_back9 X Y Z
  have X6 : Stand p l e R s m args below meth c S locs (cells + 3) (slots + (nb + 10)) := { X5 with same := X5.same.mono (by omega) (by omega) }
  obtain ⟨t, a1, b1⟩ := k S.heap q ce f1' f2' ⟨Nat.le_trans hS.1 f1', fun q h1 h2 => (f2' q (Nat.lt_of_lt_of_le h1 hS.1)).trans (hS.2.1 q h1 h2), hS.2.2⟩ hce hv hcl' S rfl X6
  exact ⟨t, st t a1, b1⟩
/-- from the machine's note that NullPointerException is thrown here -/
def vx_NoteN (p : Program) (l : Launch) (e : Env) (R : Room) (s : State) (m : MethodId) (args : Array Value) (below : List Frame) (meth : Method) (c : Code) (H : Heap) (locs : List Loc) (cells slots : Nat) (Q : State → Prop) (g : JFrame) : Prop :=
  ∀ T : State, T.heap = H → Stand p l e R s m args below meth c T locs cells slots → ∃ t, Steps p.tables e below ((T.setTop g).pushFrame (.throwNew "java/lang/NullPointerException" none none)) t ∧ Q t
theorem vx_npe {pc : Nat} {ls : Array Slot} {rest : List Value} {Q : State → Prop} (hexec : p.tables.exec = Jvm.exec) (hl : l.stackTraces = false) {nb : Nat} {A : Nat → Prop}
    (hat : ∀ w ∈ vx_atN nb, w.before args s = true) (hgood : ∀ w ∈ vx_atN nb, vx_ot w = true)
    (hU : vx_Zq Bundle.tN "UNASSIGNED_STACK" Bundle.steD A s s.heap) (hN : vx_Zq Bundle.tN "SUPPRESSED_SENTINEL" Bundle.listD A s s.heap) (hS : va_S A s.heap H locs) (hsize : ls.size = c.maxLocals)
    (hRframes : 7 < R.frames) (hRlocals : (rest.map fun v => v.category).sum + 10240 ≤ R.locals) (hRcells : cells + 1 ≤ R.cells) (hRslots : slots + nb ≤ R.slots) (hlocks : meth.locks = false)
    (k : ∀ (H1 : Heap) (q9 : Addr) (ce : Cell), H.size ≤ H1.size → (∀ q : Nat, q < H.size → H1[q]? = H[q]?) → va_S A s.heap H1 locs → H1[q9]? = some ce → ce.vm = .none → s.vm.findClass "java/lang/NullPointerException" = some ce.cls → vx_W p l e R s m args below meth c H1 locs (cells + 1) (slots + nb) Q (F0 m pc ls rest) q9) :
    vx_NoteN p l e R s m args below meth c H locs cells slots Q (F0 m pc ls rest) := by
  intro T hT X
  have htr : e.platform.stackTraces = false := (show e.platform.stackTraces = l.stackTraces by rw [X.admits.platform]).trans hl
  have Y := vx_rebase X (R' := { frames := R.frames, locals := R.locals, cells := 1, slots := nb }) (Nat.le_refl _) (Nat.le_refl _) hRcells hRslots
  have hhp : ((T.setVm s.vm).setFrames (.invoking m args :: below)).heap = H := hT
  have hW0 : s.WarmedH ((T.setVm s.vm).setFrames (.invoking m args :: below)).vm := State.WarmedH.refl s
  have hat' : ∀ w ∈ vx_atN nb, w.before args ((T.setVm s.vm).setFrames (.invoking m args :: below)) = true := fun w hw => vx_ot_at hW0 rfl (hgood w hw) (hat w hw)
  have hU' : vx_Zq Bundle.tN "UNASSIGNED_STACK" Bundle.steD A ((T.setVm s.vm).setFrames (.invoking m args :: below)) ((T.setVm s.vm).setFrames (.invoking m args :: below)).heap := by rw [hhp]; exact vx_Zq.moved hW0.alike (hU.kept hS.2.1)
  have hN' : vx_Zq Bundle.tN "SUPPRESSED_SENTINEL" Bundle.listD A ((T.setVm s.vm).setFrames (.invoking m args :: below)) ((T.setVm s.vm).setFrames (.invoking m args :: below)).heap := by rw [hhp]; exact vx_Zq.moved hW0.alike (hN.kept hS.2.1)
  obtain ⟨S, q, ce, st, Z, hce, hcl', hv⟩ := vx_npeAt Y hexec htr (n := nb) (vx_own hat' (vx_isRefq hU'.1) (vx_isRefq hN'.1) hU'.2.word hN'.2.word) (fun x hx => nomatch hx)
    (g := F0 m pc ls rest) rfl hsize hRframes (by show 2 * 0 + (rest.map fun v => v.category).sum + 10240 ≤ R.locals; omega) (by show 0 + 1 ≤ 1; omega) (by show 0 + nb ≤ nb; omega) hlocks
  obtain ⟨f1, f2⟩ := vx_frame Z.same
  have f1' : H.size ≤ S.heap.size := by rw [← hT]; exact f1
  have f2' : ∀ q : Nat, q < H.size → S.heap[q]? = H[q]? := fun q hq => by
    rw [← hT]
    exact f2 q (by rw [← hT] at hq; exact hq) (fun z hz => nomatch hz)
  have X5 := vx_back9 X Y Z
  have X6 : Stand p l e R s m args below meth c S locs (cells + 1) (slots + nb) := { X5 with same := X5.same.mono (by omega) (by omega) }
  obtain ⟨t, a1, b1⟩ := k S.heap q ce f1' f2' ⟨Nat.le_trans hS.1 f1', fun q h1 h2 => (f2' q (Nat.lt_of_lt_of_le h1 hS.1)).trans (hS.2.1 q h1 h2), hS.2.2⟩ hce hv hcl' S rfl X6
  exact ⟨t, st t a1, b1⟩
variable {Q : State → Prop} {cc : ByteArray} {pc : Nat} {ls : Array Slot} {rest : List Value}
theorem vx_idivZ (hexec : p.tables.exec = Jvm.exec) (hb : c.code = cc) {a b : Int32} (h0 : b = 0) (d : decode cc pc = .ok (.idiv, 1)) (k : vx_Note p l e R s m args below meth c H locs cells slots Q (F0 m pc ls rest) "java/lang/ArithmeticException" "/ by zero") :
    W p l e R s m args below meth c H locs cells slots Q (F0 m pc ls (.int b :: .int a :: rest)) := by
  intro T hT X
  obtain ⟨t, st, q⟩ := k T hT X
  exact ⟨t, X.idivZero hexec (g := F0 m pc ls (.int b :: .int a :: rest)) rfl (a := a) (rest := rest) (by rw [h0]) (by rw [hb]; exact d) t st, q⟩
theorem vx_iremZ (hexec : p.tables.exec = Jvm.exec) (hb : c.code = cc) {a b : Int32} (h0 : b = 0) (d : decode cc pc = .ok (.irem, 1)) (k : vx_Note p l e R s m args below meth c H locs cells slots Q (F0 m pc ls rest) "java/lang/ArithmeticException" "/ by zero") :
    W p l e R s m args below meth c H locs cells slots Q (F0 m pc ls (.int b :: .int a :: rest)) := by
  intro T hT X
  obtain ⟨t, st, q⟩ := k T hT X
  exact ⟨t, X.iremZero hexec (g := F0 m pc ls (.int b :: .int a :: rest)) rfl (a := a) (rest := rest) (by rw [h0]) (by rw [hb]; exact d) t st, q⟩
theorem vx_ldivZ (hexec : p.tables.exec = Jvm.exec) (hb : c.code = cc) {a b : Int64} (h0 : b = 0) (d : decode cc pc = .ok (.ldiv, 1)) (k : vx_Note p l e R s m args below meth c H locs cells slots Q (F0 m pc ls rest) "java/lang/ArithmeticException" "/ by zero") :
    W p l e R s m args below meth c H locs cells slots Q (F0 m pc ls (.long b :: .long a :: rest)) := by
  intro T hT X
  obtain ⟨t, st, q⟩ := k T hT X
  exact ⟨t, X.ldivZero hexec (g := F0 m pc ls (.long b :: .long a :: rest)) rfl (a := a) (rest := rest) (by rw [h0]) (by rw [hb]; exact d) t st, q⟩
theorem vx_lremZ (hexec : p.tables.exec = Jvm.exec) (hb : c.code = cc) {a b : Int64} (h0 : b = 0) (d : decode cc pc = .ok (.lrem, 1)) (k : vx_Note p l e R s m args below meth c H locs cells slots Q (F0 m pc ls rest) "java/lang/ArithmeticException" "/ by zero") :
    W p l e R s m args below meth c H locs cells slots Q (F0 m pc ls (.long b :: .long a :: rest)) := by
  intro T hT X
  obtain ⟨t, st, q⟩ := k T hT X
  exact ⟨t, X.lremZero hexec (g := F0 m pc ls (.long b :: .long a :: rest)) rfl (a := a) (rest := rest) (by rw [h0]) (by rw [hb]; exact d) t st, q⟩
theorem vx_ialdZ {D : va_G} {cl : List vw_C} {ws : va_W} {tys : List (ClassId × FieldType)} {a : Nat} (hexec : p.tables.exec = Jvm.exec) (hb : c.code = cc) (hK : va_K D cl tys s) (hP : va_P D cl ws H) (q0 t0 : Nat) {cA : ClassId} {n : Nat} {f : Nat → Int32} (ha : ws[q0]? = some (a, .inl (cA, n, .inl f))) (ht : tys[t0]? = some (cA, .int)) {i : Int32} (hout : ¬ vp_in i n) (hdg : decode cc pc = .ok (.iaload, 1))
    (k : ∀ tx : String, tx = (toString "Index " ++ toString i ++ toString " out of bounds for length " ++ toString n : String) → vx_Note p l e R s m args below meth c H locs cells slots Q (F0 m pc ls rest) "java/lang/ArrayIndexOutOfBoundsException" tx) : W p l e R s m args below meth c H locs cells slots Q (F0 m pc ls (.int i :: .ref a :: rest)) := by
  intro T hT X
  obtain ⟨t, st, q⟩ := k _ rfl T hT X
  refine ⟨t, ?_, q⟩
  have h1 := X.ialoadOut hexec (by rw [hT]; exact hP q0 _ ha) ((hK.2 t0 _ ht).1 n (fun j => .int (f j))) (j := i) (by show (i < 0 ∨ (arrV _ _ _).slots.size ≤ _); rw [arrV_size]; exact Classical.byContradiction hout) (g := F0 m pc ls (.int i :: .ref a :: rest)) rfl (rest := rest) rfl (by rw [hb]; exact hdg) t
  simp only [arrV_size] at h1
  exact h1 st
theorem vx_iastZ {D : va_G} {cl : List vw_C} {ws : va_W} {tys : List (ClassId × FieldType)} {a : Nat} (hexec : p.tables.exec = Jvm.exec) (hb : c.code = cc) (hK : va_K D cl tys s) (hP : va_P D cl ws H) (q0 t0 : Nat) {cA : ClassId} {n : Nat} {f : Nat → Int32} (ha : ws[q0]? = some (a, .inl (cA, n, .inl f))) (ht : tys[t0]? = some (cA, .int)) {i : Int32} {x : Int32} (hout : ¬ vp_in i n) (hdg : decode cc pc = .ok (.iastore, 1))
    (k : ∀ tx : String, tx = (toString "Index " ++ toString i ++ toString " out of bounds for length " ++ toString n : String) → vx_Note p l e R s m args below meth c H locs cells slots Q (F0 m pc ls rest) "java/lang/ArrayIndexOutOfBoundsException" tx) : W p l e R s m args below meth c H locs cells slots Q (F0 m pc ls (.int x :: .int i :: .ref a :: rest)) := by
  intro T hT X
  obtain ⟨t, st, q⟩ := k _ rfl T hT X
  refine ⟨t, ?_, q⟩
  have h1 := X.iastoreOut hexec (by rw [hT]; exact hP q0 _ ha) ((hK.2 t0 _ ht).1 n (fun j => .int (f j))) (j := i) (by show (i < 0 ∨ (arrV _ _ _).slots.size ≤ _); rw [arrV_size]; exact Classical.byContradiction hout) (g := F0 m pc ls (.int x :: .int i :: .ref a :: rest)) rfl (rest := rest) rfl (by rw [hb]; exact hdg) t
  simp only [arrV_size] at h1
  exact h1 st
theorem vx_baldZ {D : va_G} {cl : List vw_C} {ws : va_W} {tys : List (ClassId × FieldType)} {a : Nat} (hexec : p.tables.exec = Jvm.exec) (hb : c.code = cc) (hK : va_K D cl tys s) (hP : va_P D cl ws H) (q0 t0 : Nat) {cA : ClassId} {n : Nat} {f : Nat → Int32} (ha : ws[q0]? = some (a, .inl (cA, n, .inl f))) (ht : tys[t0]? = some (cA, .byte)) {i : Int32} (hout : ¬ vp_in i n) (hdg : decode cc pc = .ok (.baload, 1))
    (k : ∀ tx : String, tx = (toString "Index " ++ toString i ++ toString " out of bounds for length " ++ toString n : String) → vx_Note p l e R s m args below meth c H locs cells slots Q (F0 m pc ls rest) "java/lang/ArrayIndexOutOfBoundsException" tx) : W p l e R s m args below meth c H locs cells slots Q (F0 m pc ls (.int i :: .ref a :: rest)) := by
  intro T hT X
  obtain ⟨t, st, q⟩ := k _ rfl T hT X
  refine ⟨t, ?_, q⟩
  have h1 := X.baloadOut hexec (by rw [hT]; exact hP q0 _ ha) ((hK.2 t0 _ ht).1 n (fun j => .int (f j))) (j := i) (by show (i < 0 ∨ (arrV _ _ _).slots.size ≤ _); rw [arrV_size]; exact Classical.byContradiction hout) (g := F0 m pc ls (.int i :: .ref a :: rest)) rfl (rest := rest) rfl (by rw [hb]; exact hdg) t
  simp only [arrV_size] at h1
  exact h1 st
theorem vx_bastZ {D : va_G} {cl : List vw_C} {ws : va_W} {tys : List (ClassId × FieldType)} {a : Nat} (hexec : p.tables.exec = Jvm.exec) (hb : c.code = cc) (hK : va_K D cl tys s) (hP : va_P D cl ws H) (q0 t0 : Nat) {cA : ClassId} {n : Nat} {f : Nat → Int32} (ha : ws[q0]? = some (a, .inl (cA, n, .inl f))) (ht : tys[t0]? = some (cA, .byte)) {i : Int32} {x : Int32} (hout : ¬ vp_in i n) (hdg : decode cc pc = .ok (.bastore, 1))
    (k : ∀ tx : String, tx = (toString "Index " ++ toString i ++ toString " out of bounds for length " ++ toString n : String) → vx_Note p l e R s m args below meth c H locs cells slots Q (F0 m pc ls rest) "java/lang/ArrayIndexOutOfBoundsException" tx) : W p l e R s m args below meth c H locs cells slots Q (F0 m pc ls (.int x :: .int i :: .ref a :: rest)) := by
  intro T hT X
  obtain ⟨t, st, q⟩ := k _ rfl T hT X
  refine ⟨t, ?_, q⟩
  have h1 := X.bastoreOut hexec (by rw [hT]; exact hP q0 _ ha) ((hK.2 t0 _ ht).1 n (fun j => .int (f j))) (j := i) (by show (i < 0 ∨ (arrV _ _ _).slots.size ≤ _); rw [arrV_size]; exact Classical.byContradiction hout) (g := F0 m pc ls (.int x :: .int i :: .ref a :: rest)) rfl (rest := rest) rfl (by rw [hb]; exact hdg) t
  simp only [arrV_size] at h1
  exact h1 st
theorem vx_zaldZ {D : va_G} {cl : List vw_C} {ws : va_W} {tys : List (ClassId × FieldType)} {a : Nat} (hexec : p.tables.exec = Jvm.exec) (hb : c.code = cc) (hK : va_K D cl tys s) (hP : va_P D cl ws H) (q0 t0 : Nat) {cA : ClassId} {n : Nat} {f : Nat → Int32} (ha : ws[q0]? = some (a, .inl (cA, n, .inl f))) (ht : tys[t0]? = some (cA, .boolean)) {i : Int32} (hout : ¬ vp_in i n) (hdg : decode cc pc = .ok (.baload, 1))
    (k : ∀ tx : String, tx = (toString "Index " ++ toString i ++ toString " out of bounds for length " ++ toString n : String) → vx_Note p l e R s m args below meth c H locs cells slots Q (F0 m pc ls rest) "java/lang/ArrayIndexOutOfBoundsException" tx) : W p l e R s m args below meth c H locs cells slots Q (F0 m pc ls (.int i :: .ref a :: rest)) := by
  intro T hT X
  obtain ⟨t, st, q⟩ := k _ rfl T hT X
  refine ⟨t, ?_, q⟩
  have h1 := X.baloadOut hexec (by rw [hT]; exact hP q0 _ ha) ((hK.2 t0 _ ht).1 n (fun j => .int (f j))) (j := i) (by show (i < 0 ∨ (arrV _ _ _).slots.size ≤ _); rw [arrV_size]; exact Classical.byContradiction hout) (g := F0 m pc ls (.int i :: .ref a :: rest)) rfl (rest := rest) rfl (by rw [hb]; exact hdg) t
  simp only [arrV_size] at h1
  exact h1 st
theorem vx_zastZ {D : va_G} {cl : List vw_C} {ws : va_W} {tys : List (ClassId × FieldType)} {a : Nat} (hexec : p.tables.exec = Jvm.exec) (hb : c.code = cc) (hK : va_K D cl tys s) (hP : va_P D cl ws H) (q0 t0 : Nat) {cA : ClassId} {n : Nat} {f : Nat → Int32} (ha : ws[q0]? = some (a, .inl (cA, n, .inl f))) (ht : tys[t0]? = some (cA, .boolean)) {i : Int32} {x : Int32} (hout : ¬ vp_in i n) (hdg : decode cc pc = .ok (.bastore, 1))
    (k : ∀ tx : String, tx = (toString "Index " ++ toString i ++ toString " out of bounds for length " ++ toString n : String) → vx_Note p l e R s m args below meth c H locs cells slots Q (F0 m pc ls rest) "java/lang/ArrayIndexOutOfBoundsException" tx) : W p l e R s m args below meth c H locs cells slots Q (F0 m pc ls (.int x :: .int i :: .ref a :: rest)) := by
  intro T hT X
  obtain ⟨t, st, q⟩ := k _ rfl T hT X
  refine ⟨t, ?_, q⟩
  have h1 := X.bastoreOut hexec (by rw [hT]; exact hP q0 _ ha) ((hK.2 t0 _ ht).1 n (fun j => .int (f j))) (j := i) (by show (i < 0 ∨ (arrV _ _ _).slots.size ≤ _); rw [arrV_size]; exact Classical.byContradiction hout) (g := F0 m pc ls (.int x :: .int i :: .ref a :: rest)) rfl (rest := rest) rfl (by rw [hb]; exact hdg) t
  simp only [arrV_size] at h1
  exact h1 st
theorem vx_caldZ {D : va_G} {cl : List vw_C} {ws : va_W} {tys : List (ClassId × FieldType)} {a : Nat} (hexec : p.tables.exec = Jvm.exec) (hb : c.code = cc) (hK : va_K D cl tys s) (hP : va_P D cl ws H) (q0 t0 : Nat) {cA : ClassId} {n : Nat} {f : Nat → Int32} (ha : ws[q0]? = some (a, .inl (cA, n, .inl f))) (ht : tys[t0]? = some (cA, .char)) {i : Int32} (hout : ¬ vp_in i n) (hdg : decode cc pc = .ok (.caload, 1))
    (k : ∀ tx : String, tx = (toString "Index " ++ toString i ++ toString " out of bounds for length " ++ toString n : String) → vx_Note p l e R s m args below meth c H locs cells slots Q (F0 m pc ls rest) "java/lang/ArrayIndexOutOfBoundsException" tx) : W p l e R s m args below meth c H locs cells slots Q (F0 m pc ls (.int i :: .ref a :: rest)) := by
  intro T hT X
  obtain ⟨t, st, q⟩ := k _ rfl T hT X
  refine ⟨t, ?_, q⟩
  have h1 := X.caloadOut hexec (by rw [hT]; exact hP q0 _ ha) ((hK.2 t0 _ ht).1 n (fun j => .int (f j))) (j := i) (by show (i < 0 ∨ (arrV _ _ _).slots.size ≤ _); rw [arrV_size]; exact Classical.byContradiction hout) (g := F0 m pc ls (.int i :: .ref a :: rest)) rfl (rest := rest) rfl (by rw [hb]; exact hdg) t
  simp only [arrV_size] at h1
  exact h1 st
theorem vx_castZ {D : va_G} {cl : List vw_C} {ws : va_W} {tys : List (ClassId × FieldType)} {a : Nat} (hexec : p.tables.exec = Jvm.exec) (hb : c.code = cc) (hK : va_K D cl tys s) (hP : va_P D cl ws H) (q0 t0 : Nat) {cA : ClassId} {n : Nat} {f : Nat → Int32} (ha : ws[q0]? = some (a, .inl (cA, n, .inl f))) (ht : tys[t0]? = some (cA, .char)) {i : Int32} {x : Int32} (hout : ¬ vp_in i n) (hdg : decode cc pc = .ok (.castore, 1))
    (k : ∀ tx : String, tx = (toString "Index " ++ toString i ++ toString " out of bounds for length " ++ toString n : String) → vx_Note p l e R s m args below meth c H locs cells slots Q (F0 m pc ls rest) "java/lang/ArrayIndexOutOfBoundsException" tx) : W p l e R s m args below meth c H locs cells slots Q (F0 m pc ls (.int x :: .int i :: .ref a :: rest)) := by
  intro T hT X
  obtain ⟨t, st, q⟩ := k _ rfl T hT X
  refine ⟨t, ?_, q⟩
  have h1 := X.castoreOut hexec (by rw [hT]; exact hP q0 _ ha) ((hK.2 t0 _ ht).1 n (fun j => .int (f j))) (j := i) (by show (i < 0 ∨ (arrV _ _ _).slots.size ≤ _); rw [arrV_size]; exact Classical.byContradiction hout) (g := F0 m pc ls (.int x :: .int i :: .ref a :: rest)) rfl (rest := rest) rfl (by rw [hb]; exact hdg) t
  simp only [arrV_size] at h1
  exact h1 st
theorem vx_saldZ {D : va_G} {cl : List vw_C} {ws : va_W} {tys : List (ClassId × FieldType)} {a : Nat} (hexec : p.tables.exec = Jvm.exec) (hb : c.code = cc) (hK : va_K D cl tys s) (hP : va_P D cl ws H) (q0 t0 : Nat) {cA : ClassId} {n : Nat} {f : Nat → Int32} (ha : ws[q0]? = some (a, .inl (cA, n, .inl f))) (ht : tys[t0]? = some (cA, .short)) {i : Int32} (hout : ¬ vp_in i n) (hdg : decode cc pc = .ok (.saload, 1))
    (k : ∀ tx : String, tx = (toString "Index " ++ toString i ++ toString " out of bounds for length " ++ toString n : String) → vx_Note p l e R s m args below meth c H locs cells slots Q (F0 m pc ls rest) "java/lang/ArrayIndexOutOfBoundsException" tx) : W p l e R s m args below meth c H locs cells slots Q (F0 m pc ls (.int i :: .ref a :: rest)) := by
  intro T hT X
  obtain ⟨t, st, q⟩ := k _ rfl T hT X
  refine ⟨t, ?_, q⟩
  have h1 := X.saloadOut hexec (by rw [hT]; exact hP q0 _ ha) ((hK.2 t0 _ ht).1 n (fun j => .int (f j))) (j := i) (by show (i < 0 ∨ (arrV _ _ _).slots.size ≤ _); rw [arrV_size]; exact Classical.byContradiction hout) (g := F0 m pc ls (.int i :: .ref a :: rest)) rfl (rest := rest) rfl (by rw [hb]; exact hdg) t
  simp only [arrV_size] at h1
  exact h1 st
theorem vx_sastZ {D : va_G} {cl : List vw_C} {ws : va_W} {tys : List (ClassId × FieldType)} {a : Nat} (hexec : p.tables.exec = Jvm.exec) (hb : c.code = cc) (hK : va_K D cl tys s) (hP : va_P D cl ws H) (q0 t0 : Nat) {cA : ClassId} {n : Nat} {f : Nat → Int32} (ha : ws[q0]? = some (a, .inl (cA, n, .inl f))) (ht : tys[t0]? = some (cA, .short)) {i : Int32} {x : Int32} (hout : ¬ vp_in i n) (hdg : decode cc pc = .ok (.sastore, 1))
    (k : ∀ tx : String, tx = (toString "Index " ++ toString i ++ toString " out of bounds for length " ++ toString n : String) → vx_Note p l e R s m args below meth c H locs cells slots Q (F0 m pc ls rest) "java/lang/ArrayIndexOutOfBoundsException" tx) : W p l e R s m args below meth c H locs cells slots Q (F0 m pc ls (.int x :: .int i :: .ref a :: rest)) := by
  intro T hT X
  obtain ⟨t, st, q⟩ := k _ rfl T hT X
  refine ⟨t, ?_, q⟩
  have h1 := X.sastoreOut hexec (by rw [hT]; exact hP q0 _ ha) ((hK.2 t0 _ ht).1 n (fun j => .int (f j))) (j := i) (by show (i < 0 ∨ (arrV _ _ _).slots.size ≤ _); rw [arrV_size]; exact Classical.byContradiction hout) (g := F0 m pc ls (.int x :: .int i :: .ref a :: rest)) rfl (rest := rest) rfl (by rw [hb]; exact hdg) t
  simp only [arrV_size] at h1
  exact h1 st
theorem vx_laldZ {D : va_G} {cl : List vw_C} {ws : va_W} {tys : List (ClassId × FieldType)} {a : Nat} (hexec : p.tables.exec = Jvm.exec) (hb : c.code = cc) (hK : va_K D cl tys s) (hP : va_P D cl ws H) (q0 t0 : Nat) {cA : ClassId} {n : Nat} {f : Nat → Int64} (ha : ws[q0]? = some (a, .inl (cA, n, .inr (.inl f)))) (ht : tys[t0]? = some (cA, .long)) {i : Int32} (hout : ¬ vp_in i n) (hdg : decode cc pc = .ok (.laload, 1))
    (k : ∀ tx : String, tx = (toString "Index " ++ toString i ++ toString " out of bounds for length " ++ toString n : String) → vx_Note p l e R s m args below meth c H locs cells slots Q (F0 m pc ls rest) "java/lang/ArrayIndexOutOfBoundsException" tx) : W p l e R s m args below meth c H locs cells slots Q (F0 m pc ls (.int i :: .ref a :: rest)) := by
  intro T hT X
  obtain ⟨t, st, q⟩ := k _ rfl T hT X
  refine ⟨t, ?_, q⟩
  have h1 := X.laloadOut hexec (by rw [hT]; exact hP q0 _ ha) ((hK.2 t0 _ ht).1 n (fun j => .long (f j))) (j := i) (by show (i < 0 ∨ (arrV _ _ _).slots.size ≤ _); rw [arrV_size]; exact Classical.byContradiction hout) (g := F0 m pc ls (.int i :: .ref a :: rest)) rfl (rest := rest) rfl (by rw [hb]; exact hdg) t
  simp only [arrV_size] at h1
  exact h1 st
theorem vx_lastZ {D : va_G} {cl : List vw_C} {ws : va_W} {tys : List (ClassId × FieldType)} {a : Nat} (hexec : p.tables.exec = Jvm.exec) (hb : c.code = cc) (hK : va_K D cl tys s) (hP : va_P D cl ws H) (q0 t0 : Nat) {cA : ClassId} {n : Nat} {f : Nat → Int64} (ha : ws[q0]? = some (a, .inl (cA, n, .inr (.inl f)))) (ht : tys[t0]? = some (cA, .long)) {i : Int32} {x : Int64} (hout : ¬ vp_in i n) (hdg : decode cc pc = .ok (.lastore, 1))
    (k : ∀ tx : String, tx = (toString "Index " ++ toString i ++ toString " out of bounds for length " ++ toString n : String) → vx_Note p l e R s m args below meth c H locs cells slots Q (F0 m pc ls rest) "java/lang/ArrayIndexOutOfBoundsException" tx) : W p l e R s m args below meth c H locs cells slots Q (F0 m pc ls (.long x :: .int i :: .ref a :: rest)) := by
  intro T hT X
  obtain ⟨t, st, q⟩ := k _ rfl T hT X
  refine ⟨t, ?_, q⟩
  have h1 := X.lastoreOut hexec (by rw [hT]; exact hP q0 _ ha) ((hK.2 t0 _ ht).1 n (fun j => .long (f j))) (j := i) (by show (i < 0 ∨ (arrV _ _ _).slots.size ≤ _); rw [arrV_size]; exact Classical.byContradiction hout) (g := F0 m pc ls (.long x :: .int i :: .ref a :: rest)) rfl (rest := rest) rfl (by rw [hb]; exact hdg) t
  simp only [arrV_size] at h1
  exact h1 st
theorem vx_faldZ {D : va_G} {cl : List vw_C} {ws : va_W} {tys : List (ClassId × FieldType)} {a : Nat} (hexec : p.tables.exec = Jvm.exec) (hb : c.code = cc) (hK : va_K D cl tys s) (hP : va_P D cl ws H) (q0 t0 : Nat) {cA : ClassId} {n : Nat} {f : Nat → UInt32} (ha : ws[q0]? = some (a, .inl (cA, n, .inr (.inr (.inl f))))) (ht : tys[t0]? = some (cA, .float)) {i : Int32} (hout : ¬ vp_in i n) (hdg : decode cc pc = .ok (.faload, 1))
    (k : ∀ tx : String, tx = (toString "Index " ++ toString i ++ toString " out of bounds for length " ++ toString n : String) → vx_Note p l e R s m args below meth c H locs cells slots Q (F0 m pc ls rest) "java/lang/ArrayIndexOutOfBoundsException" tx) : W p l e R s m args below meth c H locs cells slots Q (F0 m pc ls (.int i :: .ref a :: rest)) := by
  intro T hT X
  obtain ⟨t, st, q⟩ := k _ rfl T hT X
  refine ⟨t, ?_, q⟩
  have h1 := X.faloadOut hexec (by rw [hT]; exact hP q0 _ ha) ((hK.2 t0 _ ht).1 n (fun j => .float (f j))) (j := i) (by show (i < 0 ∨ (arrV _ _ _).slots.size ≤ _); rw [arrV_size]; exact Classical.byContradiction hout) (g := F0 m pc ls (.int i :: .ref a :: rest)) rfl (rest := rest) rfl (by rw [hb]; exact hdg) t
  simp only [arrV_size] at h1
  exact h1 st
theorem vx_fastZ {D : va_G} {cl : List vw_C} {ws : va_W} {tys : List (ClassId × FieldType)} {a : Nat} (hexec : p.tables.exec = Jvm.exec) (hb : c.code = cc) (hK : va_K D cl tys s) (hP : va_P D cl ws H) (q0 t0 : Nat) {cA : ClassId} {n : Nat} {f : Nat → UInt32} (ha : ws[q0]? = some (a, .inl (cA, n, .inr (.inr (.inl f))))) (ht : tys[t0]? = some (cA, .float)) {i : Int32} {x : UInt32} (hout : ¬ vp_in i n) (hdg : decode cc pc = .ok (.fastore, 1))
    (k : ∀ tx : String, tx = (toString "Index " ++ toString i ++ toString " out of bounds for length " ++ toString n : String) → vx_Note p l e R s m args below meth c H locs cells slots Q (F0 m pc ls rest) "java/lang/ArrayIndexOutOfBoundsException" tx) : W p l e R s m args below meth c H locs cells slots Q (F0 m pc ls (.float x :: .int i :: .ref a :: rest)) := by
  intro T hT X
  obtain ⟨t, st, q⟩ := k _ rfl T hT X
  refine ⟨t, ?_, q⟩
  have h1 := X.fastoreOut hexec (by rw [hT]; exact hP q0 _ ha) ((hK.2 t0 _ ht).1 n (fun j => .float (f j))) (j := i) (by show (i < 0 ∨ (arrV _ _ _).slots.size ≤ _); rw [arrV_size]; exact Classical.byContradiction hout) (g := F0 m pc ls (.float x :: .int i :: .ref a :: rest)) rfl (rest := rest) rfl (by rw [hb]; exact hdg) t
  simp only [arrV_size] at h1
  exact h1 st
theorem vx_daldZ {D : va_G} {cl : List vw_C} {ws : va_W} {tys : List (ClassId × FieldType)} {a : Nat} (hexec : p.tables.exec = Jvm.exec) (hb : c.code = cc) (hK : va_K D cl tys s) (hP : va_P D cl ws H) (q0 t0 : Nat) {cA : ClassId} {n : Nat} {f : Nat → UInt64} (ha : ws[q0]? = some (a, .inl (cA, n, .inr (.inr (.inr (.inl f)))))) (ht : tys[t0]? = some (cA, .double)) {i : Int32} (hout : ¬ vp_in i n) (hdg : decode cc pc = .ok (.daload, 1))
    (k : ∀ tx : String, tx = (toString "Index " ++ toString i ++ toString " out of bounds for length " ++ toString n : String) → vx_Note p l e R s m args below meth c H locs cells slots Q (F0 m pc ls rest) "java/lang/ArrayIndexOutOfBoundsException" tx) : W p l e R s m args below meth c H locs cells slots Q (F0 m pc ls (.int i :: .ref a :: rest)) := by
  intro T hT X
  obtain ⟨t, st, q⟩ := k _ rfl T hT X
  refine ⟨t, ?_, q⟩
  have h1 := X.daloadOut hexec (by rw [hT]; exact hP q0 _ ha) ((hK.2 t0 _ ht).1 n (fun j => .double (f j))) (j := i) (by show (i < 0 ∨ (arrV _ _ _).slots.size ≤ _); rw [arrV_size]; exact Classical.byContradiction hout) (g := F0 m pc ls (.int i :: .ref a :: rest)) rfl (rest := rest) rfl (by rw [hb]; exact hdg) t
  simp only [arrV_size] at h1
  exact h1 st
theorem vx_dastZ {D : va_G} {cl : List vw_C} {ws : va_W} {tys : List (ClassId × FieldType)} {a : Nat} (hexec : p.tables.exec = Jvm.exec) (hb : c.code = cc) (hK : va_K D cl tys s) (hP : va_P D cl ws H) (q0 t0 : Nat) {cA : ClassId} {n : Nat} {f : Nat → UInt64} (ha : ws[q0]? = some (a, .inl (cA, n, .inr (.inr (.inr (.inl f)))))) (ht : tys[t0]? = some (cA, .double)) {i : Int32} {x : UInt64} (hout : ¬ vp_in i n) (hdg : decode cc pc = .ok (.dastore, 1))
    (k : ∀ tx : String, tx = (toString "Index " ++ toString i ++ toString " out of bounds for length " ++ toString n : String) → vx_Note p l e R s m args below meth c H locs cells slots Q (F0 m pc ls rest) "java/lang/ArrayIndexOutOfBoundsException" tx) : W p l e R s m args below meth c H locs cells slots Q (F0 m pc ls (.double x :: .int i :: .ref a :: rest)) := by
  intro T hT X
  obtain ⟨t, st, q⟩ := k _ rfl T hT X
  refine ⟨t, ?_, q⟩
  have h1 := X.dastoreOut hexec (by rw [hT]; exact hP q0 _ ha) ((hK.2 t0 _ ht).1 n (fun j => .double (f j))) (j := i) (by show (i < 0 ∨ (arrV _ _ _).slots.size ≤ _); rw [arrV_size]; exact Classical.byContradiction hout) (g := F0 m pc ls (.double x :: .int i :: .ref a :: rest)) rfl (rest := rest) rfl (by rw [hb]; exact hdg) t
  simp only [arrV_size] at h1
  exact h1 st
theorem vx_arraylengthN (hexec : p.tables.exec = Jvm.exec) (hb : c.code = cc) (hdg : decode cc pc = .ok (.arraylength, 1)) (k : vx_NoteN p l e R s m args below meth c H locs cells slots Q (F0 m pc ls rest)) : W p l e R s m args below meth c H locs cells slots Q (F0 m pc ls (.null :: rest)) := by
  intro T hT X
  obtain ⟨t, st, q⟩ := k T hT X
  exact ⟨t, X.arraylengthNull hexec (g := F0 m pc ls (.null :: rest)) rfl (rest := rest) rfl (by rw [hb]; exact hdg) t st, q⟩
theorem vx_ialoadN (hexec : p.tables.exec = Jvm.exec) (hb : c.code = cc) {i : Int32} (hdg : decode cc pc = .ok (.iaload, 1)) (k : vx_NoteN p l e R s m args below meth c H locs cells slots Q (F0 m pc ls rest)) : W p l e R s m args below meth c H locs cells slots Q (F0 m pc ls (.int i :: .null :: rest)) := by
  intro T hT X
  obtain ⟨t, st, q⟩ := k T hT X
  exact ⟨t, X.ialoadNull hexec (g := F0 m pc ls (.int i :: .null :: rest)) rfl (rest := rest) rfl (by rw [hb]; exact hdg) t st, q⟩
theorem vx_laloadN (hexec : p.tables.exec = Jvm.exec) (hb : c.code = cc) {i : Int32} (hdg : decode cc pc = .ok (.laload, 1)) (k : vx_NoteN p l e R s m args below meth c H locs cells slots Q (F0 m pc ls rest)) : W p l e R s m args below meth c H locs cells slots Q (F0 m pc ls (.int i :: .null :: rest)) := by
  intro T hT X
  obtain ⟨t, st, q⟩ := k T hT X
  exact ⟨t, X.laloadNull hexec (g := F0 m pc ls (.int i :: .null :: rest)) rfl (rest := rest) rfl (by rw [hb]; exact hdg) t st, q⟩
theorem vx_faloadN (hexec : p.tables.exec = Jvm.exec) (hb : c.code = cc) {i : Int32} (hdg : decode cc pc = .ok (.faload, 1)) (k : vx_NoteN p l e R s m args below meth c H locs cells slots Q (F0 m pc ls rest)) : W p l e R s m args below meth c H locs cells slots Q (F0 m pc ls (.int i :: .null :: rest)) := by
  intro T hT X
  obtain ⟨t, st, q⟩ := k T hT X
  exact ⟨t, X.faloadNull hexec (g := F0 m pc ls (.int i :: .null :: rest)) rfl (rest := rest) rfl (by rw [hb]; exact hdg) t st, q⟩
theorem vx_daloadN (hexec : p.tables.exec = Jvm.exec) (hb : c.code = cc) {i : Int32} (hdg : decode cc pc = .ok (.daload, 1)) (k : vx_NoteN p l e R s m args below meth c H locs cells slots Q (F0 m pc ls rest)) : W p l e R s m args below meth c H locs cells slots Q (F0 m pc ls (.int i :: .null :: rest)) := by
  intro T hT X
  obtain ⟨t, st, q⟩ := k T hT X
  exact ⟨t, X.daloadNull hexec (g := F0 m pc ls (.int i :: .null :: rest)) rfl (rest := rest) rfl (by rw [hb]; exact hdg) t st, q⟩
theorem vx_aaloadN (hexec : p.tables.exec = Jvm.exec) (hb : c.code = cc) {i : Int32} (hdg : decode cc pc = .ok (.aaload, 1)) (k : vx_NoteN p l e R s m args below meth c H locs cells slots Q (F0 m pc ls rest)) : W p l e R s m args below meth c H locs cells slots Q (F0 m pc ls (.int i :: .null :: rest)) := by
  intro T hT X
  obtain ⟨t, st, q⟩ := k T hT X
  exact ⟨t, X.aaloadNull hexec (g := F0 m pc ls (.int i :: .null :: rest)) rfl (rest := rest) rfl (by rw [hb]; exact hdg) t st, q⟩
theorem vx_baloadN (hexec : p.tables.exec = Jvm.exec) (hb : c.code = cc) {i : Int32} (hdg : decode cc pc = .ok (.baload, 1)) (k : vx_NoteN p l e R s m args below meth c H locs cells slots Q (F0 m pc ls rest)) : W p l e R s m args below meth c H locs cells slots Q (F0 m pc ls (.int i :: .null :: rest)) := by
  intro T hT X
  obtain ⟨t, st, q⟩ := k T hT X
  exact ⟨t, X.baloadNull hexec (g := F0 m pc ls (.int i :: .null :: rest)) rfl (rest := rest) rfl (by rw [hb]; exact hdg) t st, q⟩
theorem vx_caloadN (hexec : p.tables.exec = Jvm.exec) (hb : c.code = cc) {i : Int32} (hdg : decode cc pc = .ok (.caload, 1)) (k : vx_NoteN p l e R s m args below meth c H locs cells slots Q (F0 m pc ls rest)) : W p l e R s m args below meth c H locs cells slots Q (F0 m pc ls (.int i :: .null :: rest)) := by
  intro T hT X
  obtain ⟨t, st, q⟩ := k T hT X
  exact ⟨t, X.caloadNull hexec (g := F0 m pc ls (.int i :: .null :: rest)) rfl (rest := rest) rfl (by rw [hb]; exact hdg) t st, q⟩
theorem vx_saloadN (hexec : p.tables.exec = Jvm.exec) (hb : c.code = cc) {i : Int32} (hdg : decode cc pc = .ok (.saload, 1)) (k : vx_NoteN p l e R s m args below meth c H locs cells slots Q (F0 m pc ls rest)) : W p l e R s m args below meth c H locs cells slots Q (F0 m pc ls (.int i :: .null :: rest)) := by
  intro T hT X
  obtain ⟨t, st, q⟩ := k T hT X
  exact ⟨t, X.saloadNull hexec (g := F0 m pc ls (.int i :: .null :: rest)) rfl (rest := rest) rfl (by rw [hb]; exact hdg) t st, q⟩
theorem vx_iastoreN (hexec : p.tables.exec = Jvm.exec) (hb : c.code = cc) {x : Int32} {i : Int32} (hdg : decode cc pc = .ok (.iastore, 1)) (k : vx_NoteN p l e R s m args below meth c H locs cells slots Q (F0 m pc ls rest)) : W p l e R s m args below meth c H locs cells slots Q (F0 m pc ls (.int x :: .int i :: .null :: rest)) := by
  intro T hT X
  obtain ⟨t, st, q⟩ := k T hT X
  exact ⟨t, X.iastoreNull hexec (g := F0 m pc ls (.int x :: .int i :: .null :: rest)) rfl (rest := rest) rfl (by rw [hb]; exact hdg) t st, q⟩
theorem vx_lastoreN (hexec : p.tables.exec = Jvm.exec) (hb : c.code = cc) {x : Int64} {i : Int32} (hdg : decode cc pc = .ok (.lastore, 1)) (k : vx_NoteN p l e R s m args below meth c H locs cells slots Q (F0 m pc ls rest)) : W p l e R s m args below meth c H locs cells slots Q (F0 m pc ls (.long x :: .int i :: .null :: rest)) := by
  intro T hT X
  obtain ⟨t, st, q⟩ := k T hT X
  exact ⟨t, X.lastoreNull hexec (g := F0 m pc ls (.long x :: .int i :: .null :: rest)) rfl (rest := rest) rfl (by rw [hb]; exact hdg) t st, q⟩
theorem vx_fastoreN (hexec : p.tables.exec = Jvm.exec) (hb : c.code = cc) {x : UInt32} {i : Int32} (hdg : decode cc pc = .ok (.fastore, 1)) (k : vx_NoteN p l e R s m args below meth c H locs cells slots Q (F0 m pc ls rest)) : W p l e R s m args below meth c H locs cells slots Q (F0 m pc ls (.float x :: .int i :: .null :: rest)) := by
  intro T hT X
  obtain ⟨t, st, q⟩ := k T hT X
  exact ⟨t, X.fastoreNull hexec (g := F0 m pc ls (.float x :: .int i :: .null :: rest)) rfl (rest := rest) rfl (by rw [hb]; exact hdg) t st, q⟩
theorem vx_dastoreN (hexec : p.tables.exec = Jvm.exec) (hb : c.code = cc) {x : UInt64} {i : Int32} (hdg : decode cc pc = .ok (.dastore, 1)) (k : vx_NoteN p l e R s m args below meth c H locs cells slots Q (F0 m pc ls rest)) : W p l e R s m args below meth c H locs cells slots Q (F0 m pc ls (.double x :: .int i :: .null :: rest)) := by
  intro T hT X
  obtain ⟨t, st, q⟩ := k T hT X
  exact ⟨t, X.dastoreNull hexec (g := F0 m pc ls (.double x :: .int i :: .null :: rest)) rfl (rest := rest) rfl (by rw [hb]; exact hdg) t st, q⟩
theorem vx_bastoreN (hexec : p.tables.exec = Jvm.exec) (hb : c.code = cc) {x : Int32} {i : Int32} (hdg : decode cc pc = .ok (.bastore, 1)) (k : vx_NoteN p l e R s m args below meth c H locs cells slots Q (F0 m pc ls rest)) : W p l e R s m args below meth c H locs cells slots Q (F0 m pc ls (.int x :: .int i :: .null :: rest)) := by
  intro T hT X
  obtain ⟨t, st, q⟩ := k T hT X
  exact ⟨t, X.bastoreNull hexec (g := F0 m pc ls (.int x :: .int i :: .null :: rest)) rfl (rest := rest) rfl (by rw [hb]; exact hdg) t st, q⟩
theorem vx_castoreN (hexec : p.tables.exec = Jvm.exec) (hb : c.code = cc) {x : Int32} {i : Int32} (hdg : decode cc pc = .ok (.castore, 1)) (k : vx_NoteN p l e R s m args below meth c H locs cells slots Q (F0 m pc ls rest)) : W p l e R s m args below meth c H locs cells slots Q (F0 m pc ls (.int x :: .int i :: .null :: rest)) := by
  intro T hT X
  obtain ⟨t, st, q⟩ := k T hT X
  exact ⟨t, X.castoreNull hexec (g := F0 m pc ls (.int x :: .int i :: .null :: rest)) rfl (rest := rest) rfl (by rw [hb]; exact hdg) t st, q⟩
theorem vx_sastoreN (hexec : p.tables.exec = Jvm.exec) (hb : c.code = cc) {x : Int32} {i : Int32} (hdg : decode cc pc = .ok (.sastore, 1)) (k : vx_NoteN p l e R s m args below meth c H locs cells slots Q (F0 m pc ls rest)) : W p l e R s m args below meth c H locs cells slots Q (F0 m pc ls (.int x :: .int i :: .null :: rest)) := by
  intro T hT X
  obtain ⟨t, st, q⟩ := k T hT X
  exact ⟨t, X.sastoreNull hexec (g := F0 m pc ls (.int x :: .int i :: .null :: rest)) rfl (rest := rest) rfl (by rw [hb]; exact hdg) t st, q⟩
theorem vx_invokeN {own C : String} {index maxL : Nat} {y : MethodName} {bytes : ByteArray} {ret : Option FieldType} (hexec : p.tables.exec = Jvm.exec) (hb : c.code = cc) (hown : s.vm.findClass own = some m.cls) (hlink : (Cond.methodLink own index y).before args s = true) (hinst : (Cond.instanceMethod y).before args s = true) (hcode : (Cond.code y bytes maxL ret).before args s = true) (hsel : (Cond.selects C y y).before args s = true)
    (hx : y.cls ≠ "java/lang/invoke/MethodHandle" ∧ y.cls ≠ "java/lang/invoke/VarHandle") {As : List Value} (hlen : (parseMethodDescriptor y.desc).map (fun d => d.parameters.length) = some As.length) (hdg : decode cc pc = .ok (.invokevirtual index, 3))
    (k : vx_NoteN p l e R s m args below meth c H locs cells slots Q (F0 m pc ls rest)) {st0 : List Value} (hst : st0 = As.reverse ++ .null :: rest) : W p l e R s m args below meth c H locs cells slots Q (F0 m pc ls st0) := by
  intro T hT X
  obtain ⟨r0, r, hn, hrm, hstR, hsigR⟩ := va_Decl.of hinst hcode
  obtain ⟨c2, r2, m2, q1, q2, q3, q4, kP, hkP, hkPi⟩ := Cond.selects_spec hsel
  cases hn.symm.trans q3
  have hl9 : As.length = r.sig.parameters.length := by
    rw [hsigR] at hlen
    exact (Option.some.inj hlen).symm
  obtain ⟨vm', X1, st1⟩ := X.invokevirtualNull hexec hown hlink hn hrm hstR hkP hkPi hx (g := F0 m pc ls st0) rfl (argsL := As) (rest := rest) hl9 hst (by rw [hb]; exact hdg)
  obtain ⟨t, st, q⟩ := k (T.setVm vm') hT X1
  exact ⟨t, st1 t st, q⟩
theorem vx_newarrayZ {atype : ArrayType} (hexec : p.tables.exec = Jvm.exec) (hb : c.code = cc) {n : Int32} (h0 : n < 0) (hdg : decode cc pc = .ok (.newarray atype, 2)) (k : ∀ tx : String, tx = toString n → vx_Note p l e R s m args below meth c H locs cells slots Q (F0 m pc ls rest) "java/lang/NegativeArraySizeException" tx) : W p l e R s m args below meth c H locs cells slots Q (F0 m pc ls (.int n :: rest)) := by
  intro T hT X
  obtain ⟨t, st, q⟩ := k _ rfl T hT X
  exact ⟨t, X.newarrayNegative hexec (g := F0 m pc ls (.int n :: rest)) rfl h0 (rest := rest) rfl (by rw [hb]; exact hdg) t st, q⟩
end
end VXM
/-! ===== END ===== -/
/-! ===== BEGIN an exception as an object: made, kept, thrown later (no traces kept) ===== -/
section VXK
variable {p : Program} {l : Launch} {e : Env} {R : Room} {s : State} {m₀ : MethodId} {args : Array Value} {below : List Frame} {meth : Method} {c : Code} {W : State} {locs : List Loc} {cells slots : Nat}
set_option maxHeartbeats 1000000 in
theorem vx_ctorMadeS (X : Stand p l e R s m₀ args below meth c W locs cells slots) (hexec : p.tables.exec = Jvm.exec) (htr : e.platform.stackTraces = false) {own cls : String} {names : List String} {ic : Nat}
    (hown : s.vm.findClass own = some m₀.cls) (hcls : Bundle.fit cls = true) (hnames : ∀ n ∈ names, Bundle.fit n = true)
    (h : ∀ a ∈ Bundle.ownAtoms own ic cls names, a.before args s = true)
    (hlocs : ∀ x ∈ locs, ∀ cell, s.heap[x.base]? = some cell → cell.vm.isStatics = false)
    {a : Addr} {cX : ClassId} {kX : Class} (hfoundX : s.vm.findClass cls = some cX) (hkX : s.vm.classes[cX]? = some kX) (hcell : W.heap[a]? = some (freshCell cX kX)) (hnew : s.heap.size ≤ a)
    {msg : Value} (hmsg : msg.isRef = true)
    {g : JFrame} (hg : g.method = m₀) (hsize : g.locals.size = c.maxLocals) {rest : List Value} (hstack : g.stack = msg :: .ref a :: .ref a :: rest)
    (hd6 : decode c.code g.pc = .ok (.invokespecial ic, 3))
    (hRframes : names.length + 3 < R.frames) (hRlocals : 2 * g.monitorRoom + ((Value.ref a :: rest).map fun v => v.category).sum + (13 * (names.length + 1) + 42) ≤ R.locals) :
    ∃ (V : State) (ce : Cell) (L : List Loc), Stand p l e R s m₀ args below meth c (V.setCell a ce) (locs ++ L) cells slots ∧ (∀ y ∈ L, y.base = a) ∧ a < V.heap.size ∧ ce.cls = cX ∧ ce.vm = .none ∧
      ∀ target, Steps p.tables e below ((V.setCell a ce).setTop { g with stack := .ref a :: rest, pc := g.pc + 3 }) target → Steps p.tables e below (W.setTop g) target := by
  have howns : e.platform.frameOwnsMonitors = true := by rw [X.admits.platform]
  have hfin : e.platform.finalization = false := by rw [X.admits.platform]
  have hpl : e.platform.magicAccessors = ({} : Platform).magicAccessors := by rw [X.admits.platform]
  have a' : ∀ x, x ∈ Bundle.ownAtoms own ic cls names → x.holds args s none s [] = true := fun x hx => h x hx
  obtain ⟨T, Z0, L, -, Y⟩ := ThrowableC.of_atoms (args := args) howns hfin hpl (fun x hx => h x (by simp [Bundle.ownAtoms, hx]))
  obtain ⟨Z, M, LZ, LM, hnZ⟩ := Init0T.ofS_atoms (args := args) hpl L Y (fun x hx => h x (by simp [Bundle.ownAtoms, hx]))
  obtain ⟨P1, Ps, hlen, L1, hL, hP1m, hlink1, hlink⟩ := Bundle.chainS (args := args) hpl hnZ names cls hcls hnames (fun x hx => h x (by simp [Bundle.ownAtoms, hx]))
  have hfound : s.vm.findClass cls = some P1.m.cls := findClass_of_methodNamed hP1m
  cases Option.some.inj (hfoundX.symm.trans hfound)
  obtain ⟨c1, kX', hc1, hk, hord, -, -, hn6⟩ := Cond.instantiable_spec (a' (.instantiable cls 6) (by simp [Bundle.ownAtoms]))
  cases Option.some.inj (hc1.symm.trans hfound)
  cases Option.some.inj (hkX.symm.trans hk)
  have hsel0 : selectMethod e.platform s.vm P1.m.cls T.fill0 = .method T.fill0 := by
    obtain ⟨c2, r2, m2, q1, q2, q3, q4, -⟩ := Cond.selects_spec (a' (.selects cls Bundle.tFill0 Bundle.tFill0) (by simp [Bundle.ownAtoms]))
    cases Option.some.inj (q1.symm.trans hfound)
    cases Option.some.inj (q2.symm.trans (State.methodFound?_of_named Y.fill0 (by decide)))
    cases Option.some.inj (q3.symm.trans Y.fill0)
    rw [Launch.admits_selectMethod X.admits]; exact q4
  have hselF : selectMethod e.platform s.vm P1.m.cls T.fill = .method T.fill := by
    obtain ⟨c2, r2, m2, q1, q2, q3, q4, -⟩ := Cond.selects_spec (a' (.selects cls Bundle.tFill Bundle.tFill) (by simp [Bundle.ownAtoms]))
    cases Option.some.inj (q1.symm.trans hfound)
    cases Option.some.inj (q2.symm.trans (State.methodFound?_of_named Y.fill (by decide)))
    cases Option.some.inj (q3.symm.trans Y.fill)
    rw [Launch.admits_selectMethod X.admits]; exact q4
  obtain ⟨cellS0, hcS0, hiss⟩ := Y.statics
  obtain ⟨u0, hu0⟩ := Cond.staticRefV Y.unassigned L.unassignedStatic L.statics hcS0 hiss (a' (.isRef (.static Bundle.tN "UNASSIGNED_STACK" Bundle.steD)) (by simp [Bundle.ownAtoms]))
  obtain ⟨sen, hsen⟩ := Cond.staticRefV Y.sentinel L.sentinelStatic L.statics hcS0 hiss (a' (.isRef (.static Bundle.tN "SUPPRESSED_SENTINEL" Bundle.listD)) (by simp [Bundle.ownAtoms]))
  obtain ⟨ci198, i198, fB, hk198, hg198, ha198, hsB, -, hnB, htB, hffB⟩ := Cond.ownField (t := .object "java/lang/Object") Y.found L.cls (by decide +kernel) (a' (.fieldLink Bundle.tN 198 Bundle.tN "backtrace" "Ljava/lang/Object;") (by simp [Bundle.ownAtoms])) (a' (.lays Bundle.tN Bundle.tN "backtrace" "Ljava/lang/Object;") (by simp [Bundle.ownAtoms])) e.platform hpl
  obtain ⟨cellS, hcS', heS, -, hkeep⟩ := X.same.2.2.2.2.2 T.aS cellS0 hcS0
  have hcellS : W.heap[T.aS]? = some cellS := hcS'
  have hout' : ∀ i, (⟨T.aS, i⟩ : Loc) ∉ locs := fun i hmem => by
    have := hlocs _ hmem cellS0 hcS0
    rw [hiss] at this; cases this
  have hknownS : cellS.vm ≠ .unknown := by
    rw [heS]; intro hu
    rw [show cellS0.vm = .unknown from hu] at hiss
    cases hiss
  have hneS : T.aS ≠ a := Nat.ne_of_lt (Nat.lt_of_lt_of_le (Array.getElem?_eq_some_iff.mp hcS0).1 hnew)
  obtain ⟨iM, hffM⟩ := Y.msg
  obtain ⟨tyC, dC, hdC, hdnC⟩ := Cond.laysAt hfound hk Y.cause (a' (.lays cls Bundle.tN "cause" "Ljava/lang/Throwable;") (by simp [Bundle.ownAtoms]))
  obtain ⟨tyS, dS, hdS, hdnS⟩ := Cond.laysAt hfound hk Y.stack (a' (.lays cls Bundle.tN "stackTrace" Bundle.steD) (by simp [Bundle.ownAtoms]))
  obtain ⟨tyP, dP, hdP, hdnP⟩ := Cond.laysAt hfound hk Y.supp (a' (.lays cls Bundle.tN "suppressedExceptions" Bundle.listD) (by simp [Bundle.ownAtoms]))
  obtain ⟨tyM, dM, hdM, hdnM⟩ := Cond.laysAt hfound hk hffM (a' (.lays cls Bundle.tN "detailMessage" "Ljava/lang/String;") (by simp [Bundle.ownAtoms]))
  obtain ⟨tyB, dB, hdB, hdnB⟩ := Cond.laysAt hfound hk hffB (a' (.lays cls Bundle.tN "backtrace" "Ljava/lang/Object;") (by simp [Bundle.ownAtoms]))
  have bC := Cond.laysApart hdB hdC hdnB hdnC (by rw [hnB, Y.causeName]; decide)
  have bS := Cond.laysApart hdB hdS hdnB hdnS (by rw [hnB, Y.stackName]; decide)
  have bP := Cond.laysApart hdB hdP hdnB hdnP (by rw [hnB, Y.suppName]; decide)
  have hskip : SkipFacts T e.platform s (fun u => u) u0 ((preparedCellV T.toThrowableT (freshCell P1.m.cls kX) a u0 sen).withEntry W.cur) :=
    ⟨{ ci198 := ci198, i198 := i198, fBack := fB }, ⟨hk198, hg198, ha198, hsB⟩, by
      have := fresh_default (c := P1.m.cls) tyB
      rw [htB] at this
      simpa [preparedCellV, Cell.setSlot, Cell.withEntry, Array.getElem?_setIfInBounds, bC, bS, bP, bC.symm, bS.symm, bP.symm, defaultValue] using this, fun _ _ => rfl⟩
  obtain ⟨tm, methC, cdC, kC, vm₁, hnC, -, -, -, -, -, -, -, hW₁, st1⟩ := Steps.initColdS (tb := p.tables) (e := e) (below := below) (s := s) (U := W) X.here hexec X.warmed hpl hown (t := Bundle.initS cls) rfl rfl (Bundle.fit_spec hcls).2
    (a' (.methodLink own ic (Bundle.initS cls)) (by simp [Bundle.ownAtoms])) (h (.instanceMethod (Bundle.initS cls)) (by cases names <;> simp [Bundle.ownAtoms, Bundle.chainSAtoms, Bundle.passSAtoms])) (bytes := Bundle.six) (maxL := 2) (h (.code (Bundle.initS cls) Bundle.six 2 none) (by cases names <;> simp [Bundle.ownAtoms, Bundle.chainSAtoms, Bundle.passSAtoms]))
    (f := g) hg (a := a) (msg := msg) (rest := .ref a :: rest) hstack hd6
  cases Option.some.inj (hnC.symm.trans hP1m)
  have X₁ := X.noted hW₁
  obtain ⟨vm₂, X₂, st2⟩ := X₁.ctorMessageOffV hexec (g := { g with stack := .ref a :: rest }) hg hsize T L Z LZ M LM (P1 :: Ps)
    (fun P hP => by rcases List.mem_cons.mp hP with rfl | hP; exact L1; exact hL P hP) ⟨hlink1, hlink⟩ (u0 := u0) (sen := sen) (self := a) hmsg (cell := freshCell P1.m.cls kX) (cellS := cellS)
    hcell (fun _ => by simp) (by simp) rfl rfl hsel0 hselF hcellS hneS hknownS (by rw [hkeep _ (hout' _)]; exact hu0) (by rw [hkeep _ (hout' _)]; exact hsen)
    (Takes.of_laid hk hord tyC (by rw [Y.causeType]; rfl)) (Takes.of_laid hk hord tyS (by rw [Y.stackType]; exact fits_refV_array _ u0)) (Takes.of_laid hk hord tyP (by rw [Y.suppType]; exact fits_refV_object _ sen))
    (Takes.of_laid hk hord tyM (by rw [Y.msgType]; exact fits_refV_object _ ⟨msg, hmsg⟩)) Y.objLocals hskip htr [] hd6
    (by simp only [List.length_cons, hlen]; omega) (by simp only [List.length_cons, hlen]; exact hRlocals)
  have hlt : a < ((W.setVm vm₁).setVm vm₂).heap.size := (Array.getElem?_eq_some_iff.mp hcell).1
  refine ⟨(W.setVm vm₁).setVm vm₂, _, _, X₂, fun y hy => ?_, hlt, rfl, rfl, fun target hwalk => st1 _ (fun acts => ?_)⟩
  · simp only [List.mem_cons, List.not_mem_nil, or_false] at hy
    rcases hy with rfl | rfl | rfl | rfl | rfl <;> rfl
  · rw [doInvoke_state]
    exact st2 _ hwalk
set_option maxHeartbeats 1000000 in
theorem vx_ctorMade0 (X : Stand p l e R s m₀ args below meth c W locs cells slots) (hexec : p.tables.exec = Jvm.exec) (htr : e.platform.stackTraces = false) {own cls : String} {names : List String} {ic : Nat}
    (hown : s.vm.findClass own = some m₀.cls) (hcls : Bundle.fit cls = true) (hnames : ∀ n ∈ names, Bundle.fit n = true)
    (h : ∀ a ∈ Bundle.ownAtoms0 own ic cls names, a.before args s = true)
    (hlocs : ∀ x ∈ locs, ∀ cell, s.heap[x.base]? = some cell → cell.vm.isStatics = false)
    {a : Addr} {cX : ClassId} {kX : Class} (hfoundX : s.vm.findClass cls = some cX) (hkX : s.vm.classes[cX]? = some kX) (hcell : W.heap[a]? = some (freshCell cX kX)) (hnew : s.heap.size ≤ a)
    {g : JFrame} (hg : g.method = m₀) (hsize : g.locals.size = c.maxLocals) {rest : List Value} (hstack : g.stack = .ref a :: .ref a :: rest)
    (hd6 : decode c.code g.pc = .ok (.invokespecial ic, 3))
    (hRframes : names.length + 3 < R.frames) (hRlocals : 2 * g.monitorRoom + ((Value.ref a :: rest).map fun v => v.category).sum + (13 * (names.length + 1) + 41) ≤ R.locals) :
    ∃ (V : State) (ce : Cell) (L : List Loc), Stand p l e R s m₀ args below meth c (V.setCell a ce) (locs ++ L) cells slots ∧ (∀ y ∈ L, y.base = a) ∧ a < V.heap.size ∧ ce.cls = cX ∧ ce.vm = .none ∧
      ∀ target, Steps p.tables e below ((V.setCell a ce).setTop { g with stack := .ref a :: rest, pc := g.pc + 3 }) target → Steps p.tables e below (W.setTop g) target := by
  have howns : e.platform.frameOwnsMonitors = true := by rw [X.admits.platform]
  have hfin : e.platform.finalization = false := by rw [X.admits.platform]
  have hpl : e.platform.magicAccessors = ({} : Platform).magicAccessors := by rw [X.admits.platform]
  have a' : ∀ x, x ∈ Bundle.ownAtoms0 own ic cls names → x.holds args s none s [] = true := fun x hx => h x hx
  obtain ⟨T, Z, L, LZ, Y⟩ := ThrowableC.of_atoms (args := args) howns hfin hpl (fun x hx => h x (by simp [Bundle.ownAtoms0, hx]))
  obtain ⟨P1, Ps, hlen, L1, hL, hP1m, hlink1, hlink⟩ := Bundle.chain0 (args := args) hpl Y.init0 names cls hcls hnames (fun x hx => h x (by simp [Bundle.ownAtoms0, hx]))
  have hfound : s.vm.findClass cls = some P1.m.cls := findClass_of_methodNamed hP1m
  cases Option.some.inj (hfoundX.symm.trans hfound)
  obtain ⟨c1, kX', hc1, hk, hord, -, -, hn6⟩ := Cond.instantiable_spec (a' (.instantiable cls 6) (by simp [Bundle.ownAtoms0]))
  cases Option.some.inj (hc1.symm.trans hfound)
  cases Option.some.inj (hkX.symm.trans hk)
  have hsel0 : selectMethod e.platform s.vm P1.m.cls T.fill0 = .method T.fill0 := by
    obtain ⟨c2, r2, m2, q1, q2, q3, q4, -⟩ := Cond.selects_spec (a' (.selects cls Bundle.tFill0 Bundle.tFill0) (by simp [Bundle.ownAtoms0]))
    cases Option.some.inj (q1.symm.trans hfound)
    cases Option.some.inj (q2.symm.trans (State.methodFound?_of_named Y.fill0 (by decide)))
    cases Option.some.inj (q3.symm.trans Y.fill0)
    rw [Launch.admits_selectMethod X.admits]; exact q4
  have hselF : selectMethod e.platform s.vm P1.m.cls T.fill = .method T.fill := by
    obtain ⟨c2, r2, m2, q1, q2, q3, q4, -⟩ := Cond.selects_spec (a' (.selects cls Bundle.tFill Bundle.tFill) (by simp [Bundle.ownAtoms0]))
    cases Option.some.inj (q1.symm.trans hfound)
    cases Option.some.inj (q2.symm.trans (State.methodFound?_of_named Y.fill (by decide)))
    cases Option.some.inj (q3.symm.trans Y.fill)
    rw [Launch.admits_selectMethod X.admits]; exact q4
  obtain ⟨cellS0, hcS0, hiss⟩ := Y.statics
  obtain ⟨u0, hu0⟩ := Cond.staticRefV Y.unassigned L.unassignedStatic L.statics hcS0 hiss (a' (.isRef (.static Bundle.tN "UNASSIGNED_STACK" Bundle.steD)) (by simp [Bundle.ownAtoms0]))
  obtain ⟨sen, hsen⟩ := Cond.staticRefV Y.sentinel L.sentinelStatic L.statics hcS0 hiss (a' (.isRef (.static Bundle.tN "SUPPRESSED_SENTINEL" Bundle.listD)) (by simp [Bundle.ownAtoms0]))
  obtain ⟨ci198, i198, fB, hk198, hg198, ha198, hsB, -, hnB, htB, hffB⟩ := Cond.ownField (t := .object "java/lang/Object") Y.found L.cls (by decide +kernel) (a' (.fieldLink Bundle.tN 198 Bundle.tN "backtrace" "Ljava/lang/Object;") (by simp [Bundle.ownAtoms0])) (a' (.lays Bundle.tN Bundle.tN "backtrace" "Ljava/lang/Object;") (by simp [Bundle.ownAtoms0])) e.platform hpl
  obtain ⟨cellS, hcS', heS, -, hkeep⟩ := X.same.2.2.2.2.2 T.aS cellS0 hcS0
  have hcellS : W.heap[T.aS]? = some cellS := hcS'
  have hout' : ∀ i, (⟨T.aS, i⟩ : Loc) ∉ locs := fun i hmem => by
    have := hlocs _ hmem cellS0 hcS0
    rw [hiss] at this; cases this
  have hknownS : cellS.vm ≠ .unknown := by
    rw [heS]; intro hu
    rw [show cellS0.vm = .unknown from hu] at hiss
    cases hiss
  have hneS : T.aS ≠ a := Nat.ne_of_lt (Nat.lt_of_lt_of_le (Array.getElem?_eq_some_iff.mp hcS0).1 hnew)
  obtain ⟨iM, hffM⟩ := Y.msg
  obtain ⟨tyC, dC, hdC, hdnC⟩ := Cond.laysAt hfound hk Y.cause (a' (.lays cls Bundle.tN "cause" "Ljava/lang/Throwable;") (by simp [Bundle.ownAtoms0]))
  obtain ⟨tyS, dS, hdS, hdnS⟩ := Cond.laysAt hfound hk Y.stack (a' (.lays cls Bundle.tN "stackTrace" Bundle.steD) (by simp [Bundle.ownAtoms0]))
  obtain ⟨tyP, dP, hdP, hdnP⟩ := Cond.laysAt hfound hk Y.supp (a' (.lays cls Bundle.tN "suppressedExceptions" Bundle.listD) (by simp [Bundle.ownAtoms0]))
  obtain ⟨tyM, dM, hdM, hdnM⟩ := Cond.laysAt hfound hk hffM (a' (.lays cls Bundle.tN "detailMessage" "Ljava/lang/String;") (by simp [Bundle.ownAtoms0]))
  obtain ⟨tyB, dB, hdB, hdnB⟩ := Cond.laysAt hfound hk hffB (a' (.lays cls Bundle.tN "backtrace" "Ljava/lang/Object;") (by simp [Bundle.ownAtoms0]))
  have bC := Cond.laysApart hdB hdC hdnB hdnC (by rw [hnB, Y.causeName]; decide)
  have bS := Cond.laysApart hdB hdS hdnB hdnS (by rw [hnB, Y.stackName]; decide)
  have bP := Cond.laysApart hdB hdP hdnB hdnP (by rw [hnB, Y.suppName]; decide)
  have hskip : SkipFacts T e.platform s (fun u => u) u0 ((preparedCellV T.toThrowableT (freshCell P1.m.cls kX) a u0 sen).withEntry W.cur) :=
    ⟨{ ci198 := ci198, i198 := i198, fBack := fB }, ⟨hk198, hg198, ha198, hsB⟩, by
      have := fresh_default (c := P1.m.cls) tyB
      rw [htB] at this
      simpa [preparedCellV, Cell.setSlot, Cell.withEntry, Array.getElem?_setIfInBounds, bC, bS, bP, bC.symm, bS.symm, bP.symm, defaultValue] using this, fun _ _ => rfl⟩
  obtain ⟨tm, methC, cdC, kC, vm₁, hnC, -, -, -, -, -, -, -, hW₁, st1⟩ := Steps.initCold (tb := p.tables) (e := e) (below := below) (s := s) (U := W) X.here hexec X.warmed hpl hown (t := Bundle.init0 cls) rfl rfl (Bundle.fit_spec hcls).2
    (a' (.methodLink own ic (Bundle.init0 cls)) (by simp [Bundle.ownAtoms0])) (h (.instanceMethod (Bundle.init0 cls)) (by cases names <;> simp [Bundle.ownAtoms0, Bundle.chain0Atoms, Bundle.passAtoms])) (bytes := Bundle.five) (maxL := 1) (h (.code (Bundle.init0 cls) Bundle.five 1 none) (by cases names <;> simp [Bundle.ownAtoms0, Bundle.chain0Atoms, Bundle.passAtoms]))
    (f := g) hg (a := a) (rest := .ref a :: rest) hstack hd6
  cases Option.some.inj (hnC.symm.trans hP1m)
  have X₁ := X.noted hW₁
  obtain ⟨vm₂, X₂, st2⟩ := X₁.ctorPlainOffV hexec (g := { g with stack := .ref a :: rest }) hg hsize T L Z LZ (P1 :: Ps)
    (fun P hP => by rcases List.mem_cons.mp hP with rfl | hP; exact L1; exact hL P hP) ⟨hlink1, hlink⟩ (u0 := u0) (sen := sen) (self := a) (cell := freshCell P1.m.cls kX) (cellS := cellS)
    hcell (fun _ => by simp) (by simp) rfl rfl hsel0 hselF hcellS hneS hknownS (by rw [hkeep _ (hout' _)]; exact hu0) (by rw [hkeep _ (hout' _)]; exact hsen)
    (Takes.of_laid hk hord tyC (by rw [Y.causeType]; rfl)) (Takes.of_laid hk hord tyS (by rw [Y.stackType]; exact fits_refV_array _ u0)) (Takes.of_laid hk hord tyP (by rw [Y.suppType]; exact fits_refV_object _ sen)) Y.objLocals hskip htr [] hd6
    (by simp only [List.length_cons, hlen]; omega) (by simp only [List.length_cons, hlen]; exact hRlocals)
  have hlt : a < ((W.setVm vm₁).setVm vm₂).heap.size := (Array.getElem?_eq_some_iff.mp hcell).1
  refine ⟨(W.setVm vm₁).setVm vm₂, _, _, X₂, fun y hy => ?_, hlt, rfl, rfl, fun target hwalk => st1 _ (fun acts => ?_)⟩
  · simp only [List.mem_cons, List.not_mem_nil, or_false] at hy
    rcases hy with rfl | rfl | rfl | rfl <;> rfl
  · rw [doInvoke_state]
    exact st2 _ hwalk
end VXK
section VXK2
variable {p : Program} {l : Launch} {e : Env} {R : Room} {s : State} {m : MethodId} {args : Array Value} {below : List Frame} {meth : Method} {c : Code} {H : Heap} {locs : List Loc} {cells slots : Nat} {Q : State → Prop}
variable {ls : Array Slot} {rest : List Value} {D : va_G} {cl : List vw_C} {tys : List (ClassId × FieldType)} {ws : va_W}
/-- 'new E("text")' that isn't thrown at once: the object goes on the stack -/
theorem vx_makeS {cc : ByteArray} {pc : Nat} (hexec : p.tables.exec = Jvm.exec) (hb : c.code = cc) (hl : l.stackTraces = false) {own cls text : String} {names : List String} {ik is ic sa ci : Nat} {A : Nat → Prop} {T0 : u_T}
    (hown : s.vm.findClass own = some m.cls) (hcls : Bundle.fit cls = true) (hnames : ∀ n ∈ names, Bundle.fit n = true)
    (hk : (Cond.classLink own ik cls).before args s = true) (hini : (Cond.initialized cls).before args s = true) (hstr : vk_R own is text sa s) (hat : ∀ w ∈ vx_atS own ic cls names, w.before args s = true)
    (hgood : ∀ w ∈ Cond.classLink own ik cls :: Cond.initialized cls :: vx_atS own ic cls names, vx_ot w = true)
    (hU : vx_Zq Bundle.tN "UNASSIGNED_STACK" Bundle.steD A s s.heap) (hN : vx_Zq Bundle.tN "SUPPRESSED_SENTINEL" Bundle.listD A s s.heap) (hS : va_S A s.heap H locs) (hsize : ls.size = c.maxLocals)
    (d0 : decode cc pc = .ok (.new ik, 3)) (d3 : decode cc (pc + 3) = .ok (.dup, 1)) (d4 : decode cc (pc + 4) = .ok (.ldc is, 2)) (d6 : decode cc (pc + 6) = .ok (.invokespecial ic, 3))
    (hK : va_K D cl tys s) (hP : va_P D cl ws H) (hD : va_D A ws) (hA : ∀ q, s.heap.size ≤ q → A q) (hc : cl[ci]? = some (cls, T0, 0))
    (hRframes : names.length + 3 < R.frames) (hRlocals : (rest.map fun v => v.category).sum + (13 * (names.length + 1) + 43) ≤ R.locals) (hRcells : cells + 1 ≤ R.cells) (hRslots : slots + 6 ≤ R.slots)
    (kk : ∀ (q : Nat) (H1 : Heap), va_P D cl (ws ++ [(q, .inr (ci, []))]) H1 → va_D A (ws ++ [(q, .inr (ci, []))]) → va_S A s.heap H1 locs → W p l e R s m args below meth c H1 locs (cells + 1) (slots + 6) Q (F0 m (pc + 9) ls (.ref q :: rest))) :
    W p l e R s m args below meth c H locs cells slots Q (F0 m pc ls rest) := by
  intro T hT X
  subst hT
  have htr : e.platform.stackTraces = false := (show e.platform.stackTraces = l.stackTraces by rw [X.admits.platform]).trans hl
  have Y := vx_rebase X (R' := { frames := R.frames, locals := R.locals, cells := 1, slots := 6 }) (Nat.le_refl _) (Nat.le_refl _) hRcells hRslots
  obtain ⟨s', hA'⟩ : ∃ z, z = (T.setVm s.vm).setFrames (.invoking m args :: below) := ⟨_, rfl⟩
  rw [← hA'] at Y
  have hvm : s'.vm = s.vm := by rw [hA']; rfl
  have hhp : s'.heap = T.heap := by rw [hA']; rfl
  have hW0 : s.WarmedH s'.vm := by rw [hvm]; exact State.WarmedH.refl s
  have hat' : ∀ w ∈ vx_atS own ic cls names, w.before args s' = true := fun w hw => vx_ot_at hW0 hvm.symm (hgood w (List.mem_cons_of_mem _ (List.mem_cons_of_mem _ hw))) (hat w hw)
  have hk' : (Cond.classLink own ik cls).before args s' = true := vx_ot_at hW0 hvm.symm (hgood _ List.mem_cons_self) hk
  have hini' : (Cond.initialized cls).before args s' = true := vx_ot_at hW0 hvm.symm (hgood _ (List.mem_cons_of_mem _ List.mem_cons_self)) hini
  have hU' : vx_Zq Bundle.tN "UNASSIGNED_STACK" Bundle.steD A s' s'.heap := by rw [hhp]; exact vx_Zq.moved hW0.alike (hU.kept hS.2.1)
  have hN' : vx_Zq Bundle.tN "SUPPRESSED_SENTINEL" Bundle.listD A s' s'.heap := by rw [hhp]; exact vx_Zq.moved hW0.alike (hN.kept hS.2.1)
  have h : ∀ w ∈ Bundle.ownAtoms own ic cls names, w.before args s' = true := vx_own hat' (vx_isRefq hU'.1) (vx_isRefq hN'.1) hU'.2.word hN'.2.word
  have hown' : s'.vm.findClass own = some m.cls := by rw [hvm]; exact hown
  have hins : (Cond.instantiable cls 6).before args s' = true := h _ (by simp [Bundle.ownAtoms])
  obtain ⟨vm₁, cX, kX, hfX, hkX, -, -, X₁, st1⟩ := Y.newCold hexec (own := own) (C := cls) (index := ik) (n := 6) hown' hk' hins hini'
    (g := F0 m pc ls rest) rfl (by rw [hb]; exact d0) (Nat.le_refl _) (Nat.le_refl _)
  generalize hT1 : (T.setVm vm₁).pushCell { cls := cX, slots := kX.instanceTypes.map defaultValue, vm := .none } = T1 at X₁ st1
  have hcat : (Value.ref T.heap.size).category = 1 := rfl
  have hcellA : T1.heap[T.heap.size]? = some (freshCell cX kX) := by rw [← hT1]; exact State.heap_pushCell_size _ _
  have d3' : decode c.code (pc + 3) = .ok (.dup, 1) := by rw [hb]; exact d3
  have d4' : decode c.code (pc + 4) = .ok (.ldc is, 2) := by rw [hb]; exact d4
  have hstr' : vk_R own is text sa s' := vk_R.warm hW0 hstr
  obtain ⟨V, ce, L, Z, hL, hlt, hcl9, hvm9, st⟩ := vx_ctorMadeS X₁ hexec htr (own := own) (cls := cls) (names := names) (ic := ic) hown' hcls hnames h (fun x hx => nomatch hx) hfX hkX hcellA (by rw [hhp]; exact Nat.le_refl _) (msg := .ref sa) rfl
    (g := { method := m, pc := pc + 6, locals := ls, stack := .ref sa :: .ref T.heap.size :: .ref T.heap.size :: rest, locked := none }) rfl hsize (rest := rest) rfl
    (by rw [hb]; exact d6) hRframes (by simp only [List.map_cons, List.sum_cons, hcat]; omega)
  have Z0 := Stand.forget (locs := []) Z (fun y hy => by rw [hL y hy, hhp]; exact Nat.le_refl _)
  obtain ⟨f1, f2⟩ := vx_frame Z0.same
  rw [hhp] at f1 f2
  have hcid : ce.cls = D.1 ci := by
    rw [hcl9]
    have h1 := (hK.1 ci _ hc).2.1
    rw [hvm] at hfX
    exact Option.some.inj (hfX.symm.trans h1)
  have hh : (V.setCell T.heap.size ce).heap[T.heap.size]? = some ce := heapAt_setCell_self (s := V) ce hlt
  subst hA'
  have X5 := vx_back9 X Y Z0
  have X6 : Stand p l e R s m args below meth c (V.setCell T.heap.size ce) locs (cells + 1) (slots + 6) := { X5 with same := X5.same.mono (by omega) (by omega) }
  have hk9 : ∀ (k : Nat) (x : Nat × va_E), ws[k]? = some x → (V.setCell T.heap.size ce).heap[x.1]? = T.heap[x.1]? := fun k x hx => f2 x.1 ((hP k x hx).lt) (fun z hz => nomatch hz)
  obtain ⟨t, a1, b1⟩ := kk T.heap.size (V.setCell T.heap.size ce).heap ((hP.kept hk9).app (fun k x hx => by
      have hz : k < 1 := (List.getElem?_eq_some_iff.mp hx).1
      rw [show k = 0 by omega] at hx
      cases hx
      exact ⟨_, hc, ce, hh, hcid, hvm9, fun k hk => absurd hk (Nat.not_lt_zero k)⟩)) (hD.push hP rfl (hA _ hS.1)) ⟨Nat.le_trans hS.1 f1, fun q h1 h2 => (f2 q (Nat.lt_of_lt_of_le h1 hS.1) (fun z hz => nomatch hz)).trans (hS.2.1 q h1 h2), hS.2.2⟩ _ rfl X6
  refine ⟨t, st1 _ ?_, b1⟩
  show Steps p.tables e below (T1.setTop { method := m, pc := pc + 3, locals := ls, stack := .ref T.heap.size :: rest, locked := none }) _
  jvm_step X₁.here [X₁.here.top, hexec, d3', Value.category]
  exact X₁.ldcString hexec (own := own) (text := text) (index := is) (a := sa) hown' hstr'.1 hstr'.2
    (g := { method := m, pc := pc + 4, locals := ls, stack := .ref T.heap.size :: .ref T.heap.size :: rest, locked := none }) rfl d4' _ (st _ a1)
/-- 'new E()' that isn't thrown at once: the object goes on the stack -/
theorem vx_make0 {cc : ByteArray} {pc : Nat} (hexec : p.tables.exec = Jvm.exec) (hb : c.code = cc) (hl : l.stackTraces = false) {own cls : String} {names : List String} {ik ic ci : Nat} {A : Nat → Prop} {T0 : u_T}
    (hown : s.vm.findClass own = some m.cls) (hcls : Bundle.fit cls = true) (hnames : ∀ n ∈ names, Bundle.fit n = true)
    (hk : (Cond.classLink own ik cls).before args s = true) (hini : (Cond.initialized cls).before args s = true) (hat : ∀ w ∈ vx_at0 own ic cls names, w.before args s = true)
    (hgood : ∀ w ∈ Cond.classLink own ik cls :: Cond.initialized cls :: vx_at0 own ic cls names, vx_ot w = true)
    (hU : vx_Zq Bundle.tN "UNASSIGNED_STACK" Bundle.steD A s s.heap) (hN : vx_Zq Bundle.tN "SUPPRESSED_SENTINEL" Bundle.listD A s s.heap) (hS : va_S A s.heap H locs) (hsize : ls.size = c.maxLocals)
    (d0 : decode cc pc = .ok (.new ik, 3)) (d3 : decode cc (pc + 3) = .ok (.dup, 1)) (d4 : decode cc (pc + 4) = .ok (.invokespecial ic, 3))
    (hK : va_K D cl tys s) (hP : va_P D cl ws H) (hD : va_D A ws) (hA : ∀ q, s.heap.size ≤ q → A q) (hc : cl[ci]? = some (cls, T0, 0))
    (hRframes : names.length + 3 < R.frames) (hRlocals : (rest.map fun v => v.category).sum + (13 * (names.length + 1) + 42) ≤ R.locals) (hRcells : cells + 1 ≤ R.cells) (hRslots : slots + 6 ≤ R.slots)
    (kk : ∀ (q : Nat) (H1 : Heap), va_P D cl (ws ++ [(q, .inr (ci, []))]) H1 → va_D A (ws ++ [(q, .inr (ci, []))]) → va_S A s.heap H1 locs → W p l e R s m args below meth c H1 locs (cells + 1) (slots + 6) Q (F0 m (pc + 7) ls (.ref q :: rest))) :
    W p l e R s m args below meth c H locs cells slots Q (F0 m pc ls rest) := by
  intro T hT X
  subst hT
  have htr : e.platform.stackTraces = false := (show e.platform.stackTraces = l.stackTraces by rw [X.admits.platform]).trans hl
  have Y := vx_rebase X (R' := { frames := R.frames, locals := R.locals, cells := 1, slots := 6 }) (Nat.le_refl _) (Nat.le_refl _) hRcells hRslots
  obtain ⟨s', hA'⟩ : ∃ z, z = (T.setVm s.vm).setFrames (.invoking m args :: below) := ⟨_, rfl⟩
  rw [← hA'] at Y
  have hvm : s'.vm = s.vm := by rw [hA']; rfl
  have hhp : s'.heap = T.heap := by rw [hA']; rfl
  have hW0 : s.WarmedH s'.vm := by rw [hvm]; exact State.WarmedH.refl s
  have hat' : ∀ w ∈ vx_at0 own ic cls names, w.before args s' = true := fun w hw => vx_ot_at hW0 hvm.symm (hgood w (List.mem_cons_of_mem _ (List.mem_cons_of_mem _ hw))) (hat w hw)
  have hk' : (Cond.classLink own ik cls).before args s' = true := vx_ot_at hW0 hvm.symm (hgood _ List.mem_cons_self) hk
  have hini' : (Cond.initialized cls).before args s' = true := vx_ot_at hW0 hvm.symm (hgood _ (List.mem_cons_of_mem _ List.mem_cons_self)) hini
  have hU' : vx_Zq Bundle.tN "UNASSIGNED_STACK" Bundle.steD A s' s'.heap := by rw [hhp]; exact vx_Zq.moved hW0.alike (hU.kept hS.2.1)
  have hN' : vx_Zq Bundle.tN "SUPPRESSED_SENTINEL" Bundle.listD A s' s'.heap := by rw [hhp]; exact vx_Zq.moved hW0.alike (hN.kept hS.2.1)
  have h : ∀ w ∈ Bundle.ownAtoms0 own ic cls names, w.before args s' = true := vx_own hat' (vx_isRefq hU'.1) (vx_isRefq hN'.1) hU'.2.word hN'.2.word
  have hown' : s'.vm.findClass own = some m.cls := by rw [hvm]; exact hown
  have hins : (Cond.instantiable cls 6).before args s' = true := h _ (by simp [Bundle.ownAtoms0])
  obtain ⟨vm₁, cX, kX, hfX, hkX, -, -, X₁, st1⟩ := Y.newCold hexec (own := own) (C := cls) (index := ik) (n := 6) hown' hk' hins hini'
    (g := F0 m pc ls rest) rfl (by rw [hb]; exact d0) (Nat.le_refl _) (Nat.le_refl _)
  generalize hT1 : (T.setVm vm₁).pushCell { cls := cX, slots := kX.instanceTypes.map defaultValue, vm := .none } = T1 at X₁ st1
  have hcat : (Value.ref T.heap.size).category = 1 := rfl
  have hcellA : T1.heap[T.heap.size]? = some (freshCell cX kX) := by rw [← hT1]; exact State.heap_pushCell_size _ _
  have d3' : decode c.code (pc + 3) = .ok (.dup, 1) := by rw [hb]; exact d3
  obtain ⟨V, ce, L, Z, hL, hlt, hcl9, hvm9, st⟩ := vx_ctorMade0 X₁ hexec htr (own := own) (cls := cls) (names := names) (ic := ic) hown' hcls hnames h (fun x hx => nomatch hx) hfX hkX hcellA (by rw [hhp]; exact Nat.le_refl _)
    (g := { method := m, pc := pc + 4, locals := ls, stack := .ref T.heap.size :: .ref T.heap.size :: rest, locked := none }) rfl hsize (rest := rest) rfl
    (by rw [hb]; exact d4) hRframes (by simp only [List.map_cons, List.sum_cons, hcat]; omega)
  have Z0 := Stand.forget (locs := []) Z (fun y hy => by rw [hL y hy, hhp]; exact Nat.le_refl _)
  obtain ⟨f1, f2⟩ := vx_frame Z0.same
  rw [hhp] at f1 f2
  have hcid : ce.cls = D.1 ci := by
    rw [hcl9]
    have h1 := (hK.1 ci _ hc).2.1
    rw [hvm] at hfX
    exact Option.some.inj (hfX.symm.trans h1)
  have hh : (V.setCell T.heap.size ce).heap[T.heap.size]? = some ce := heapAt_setCell_self (s := V) ce hlt
  subst hA'
  have X5 := vx_back9 X Y Z0
  have X6 : Stand p l e R s m args below meth c (V.setCell T.heap.size ce) locs (cells + 1) (slots + 6) := { X5 with same := X5.same.mono (by omega) (by omega) }
  have hk9 : ∀ (k : Nat) (x : Nat × va_E), ws[k]? = some x → (V.setCell T.heap.size ce).heap[x.1]? = T.heap[x.1]? := fun k x hx => f2 x.1 ((hP k x hx).lt) (fun z hz => nomatch hz)
  obtain ⟨t, a1, b1⟩ := kk T.heap.size (V.setCell T.heap.size ce).heap ((hP.kept hk9).app (fun k x hx => by
      have hz : k < 1 := (List.getElem?_eq_some_iff.mp hx).1
      rw [show k = 0 by omega] at hx
      cases hx
      exact ⟨_, hc, ce, hh, hcid, hvm9, fun k hk => absurd hk (Nat.not_lt_zero k)⟩)) (hD.push hP rfl (hA _ hS.1)) ⟨Nat.le_trans hS.1 f1, fun q h1 h2 => (f2 q (Nat.lt_of_lt_of_le h1 hS.1) (fun z hz => nomatch hz)).trans (hS.2.1 q h1 h2), hS.2.2⟩ _ rfl X6
  refine ⟨t, st1 _ ?_, b1⟩
  show Steps p.tables e below (T1.setTop { method := m, pc := pc + 3, locals := ls, stack := .ref T.heap.size :: rest, locked := none }) _
  jvm_step X₁.here [X₁.here.top, hexec, d3', Value.category]
  exact st _ a1
/-- 'throw x' of an object that was made before -/
theorem vx_athrow {cc : ByteArray} {pc : Nat} (hexec : p.tables.exec = Jvm.exec) (hb : c.code = cc) {q : Addr} (hdg : decode cc pc = .ok (.athrow, 1)) (k : vx_W p l e R s m args below meth c H locs cells slots Q (F0 m pc ls rest) q) : W p l e R s m args below meth c H locs cells slots Q (F0 m pc ls (.ref q :: rest)) := by
  intro T hT X
  obtain ⟨t, st, hq⟩ := k T hT X
  refine ⟨t, ?_, hq⟩
  have hdg' : decode c.code pc = .ok (.athrow, 1) := by rw [hb]; exact hdg
  jvm_step X.here [X.here.top, hexec, hdg', athrow.wp_sem]
  exact st
end VXK2
/-! ===== END ===== -/
/-! ===== BEGIN a constructor that throws (launches without stack traces) ===== -/
section VXIA
variable {p : Program} {l : Launch} {e : Env} {R : Room} {s : State} {m : MethodId} {args : Array Value} {below : List Frame} {meth : Method} {c : Code} {T : State} {locs : List Loc} {cells slots : Nat}
theorem vx_callI (X : Stand p l e R s m args below meth c T locs cells slots) (hexec : p.tables.exec = Jvm.exec) {own : String} {index : Nat} {y : MethodName} {bytes : ByteArray} {maxL : Nat}
    (hown : s.vm.findClass own = some m.cls) (hy1 : y.name = "<init>") (hlink : (Cond.methodLink own index y).before args s = true) (hinst : (Cond.instanceMethod y).before args s = true)
    (hcode : (Cond.code y bytes maxL none).before args s = true) (hy : y.cls ≠ "java/lang/invoke/MethodHandle" ∧ y.cls ≠ "java/lang/invoke/VarHandle")
    {W9 : Nat} {Pre : Pt → Array Value → Prop} {Post : Pt → Array Value → Option Value → Pt → Prop} {PostX : Pt → Array Value → Addr → Pt → Prop} (hK : vx_Back l R p e below s args y 3 W9 Pre Post PostX)
    {g : JFrame} (hg : g.method = m) (hsize : g.locals.size = c.maxLocals) {a : Addr} {argsL rest : List Value} (hlen : ∀ sig, parseMethodDescriptor y.desc = some sig → argsL.length = sig.parameters.length)
    (hstack : g.stack = argsL.reverse ++ .ref a :: rest) (hW : 2 * g.monitorRoom + (rest.map fun v => v.category).sum ≤ W9) (hdg : decode c.code g.pc = .ok (.invokespecial index, 3))
    (hpre : ∀ vm₁, s.WarmedH vm₁ → Pre ⟨T.setVm vm₁, locs, cells, slots⟩ (Value.ref a :: argsL).toArray) :
    (∃ (v : Option Value) (vm₁ : Vm) (B : Pt), s.WarmedH vm₁ ∧ Stand p l e R s m args below meth c B.U B.locs B.cells B.slots ∧ Post ⟨T.setVm vm₁, locs, cells, slots⟩ (Value.ref a :: argsL).toArray v B ∧
      ∀ target, Steps p.tables e below (B.U.setTop { g with pc := g.pc + 3, stack := v.toList ++ rest }) target → Steps p.tables e below (T.setTop g) target) ∨
    (∃ (q : Addr) (vm₁ : Vm) (B : Pt), s.WarmedH vm₁ ∧ Stand p l e R s m args below meth c B.U B.locs B.cells B.slots ∧ PostX ⟨T.setVm vm₁, locs, cells, slots⟩ (Value.ref a :: argsL).toArray q B ∧
      Steps p.tables e below (T.setTop g) ((B.U.setTop { g with stack := rest }).pushFrame (.throwing q))) := by
  subst hg
  have hpl : e.platform.magicAccessors = ({} : Platform).magicAccessors := by rw [X.admits.platform]
  obtain ⟨mk, methM, cM, kP, vm₁, hnamed, hmethM, hcodeM, -, hlocalsM, -, hkP, -, hW₁, hstep₁⟩ := Steps.initColdArgs (e := e) X.here hexec X.warmed hpl hown hy1 hy hlink hinst hcode (f := g) rfl hlen hstack hdg
  have X₁ := X.noted hW₁
  rcases hK g.method meth c ⟨T.setVm vm₁, locs, cells, slots⟩ { g with stack := rest } (.invokespecial index) mk (Value.ref a :: argsL).toArray X₁ rfl hsize hdg hW (X₁.named hnamed) (hpre vm₁ X₁.warmed) with ⟨v, B, X', hpost, hsteps⟩ | ⟨q, B, X', hpost, hsteps⟩
  · exact Or.inl ⟨v, vm₁, B, X₁.warmed, X', hpost, fun target h => hstep₁ _ fun acts => by rw [doInvoke_state]; exact hsteps.trans h⟩
  · exact Or.inr ⟨q, vm₁, B, X₁.warmed, X', hpost, hstep₁ _ fun acts => by rw [doInvoke_state]; exact hsteps⟩
end VXIA
section VXIB
variable {p : Program} {l : Launch} {e : Env} {R : Room} {s : State} {m : MethodId} {args : Array Value} {below : List Frame} {meth : Method} {c : Code} {H : Heap} {locs : List Loc} {cells slots : Nat}
variable {y : MethodName} {bytes cc : ByteArray} {maxL nL mc ms n index : Nat} {ret : Option FieldType} {ws : List Cond} {rm : Room} {Pc : Array Value → State → Prop} {Qc : Array Value → State → Outcome → State → Prop} {XC : String → State → State → Prop} {free : Addr → Prop} {Ts : List Cond} {own C : String} {b : Addr} {As rest : List Value} {g : JFrame}
theorem vx_runI (S : CallFix p m c cc nL s args Ts own) (hM : vx_Met l y ws rm Pc Qc XC mc ms free) (cw : CallB R s args own index y bytes maxL none ws rm mc ms n ∧ y.name = "<init>" ∧ (Cond.instanceMethod y).before args s = true) (hp : PreS s H Pc (.ref b :: As))
    (hg : g.method = m) (hn : As.length = n) (hsize : g.locals.size = nL) (hstack : g.stack = As.reverse ++ .ref b :: rest) (hW : 2 * g.monitorRoom + (rest.map fun v => v.category).sum ≤ 8) (hdg : decode cc g.pc = .ok (.invokespecial index, 3)) (hf : cells + mc ≤ R.cells ∧ slots + ms ≤ R.slots) :
    vx_Run p l e R s m args below meth c H locs cells slots mc ms g rest (Qc (Value.ref b :: As).toArray) XC free := by
  have hK : vx_Back l R p e below s args y 3 8 (PreOf R mc ms Pc) (PostOf Qc mc ms free) (vx_Post XC mc ms free) := vx_callBack cw.1 hM hp.1
  obtain ⟨⟨-, -, -, -, -, -, hcode, -, hy, hlen, hl⟩, hy1, hin⟩ := cw
  obtain ⟨hx, hb, hml, ho, -⟩ := S
  have hPc := hp.2
  intro T hT X
  rcases vx_callI X hx (bytes := bytes) (maxL := maxL) ho hy1 hl hin hcode hy hK hg (hsize.trans hml.symm) (a := b) (argsL := As) (rest := rest) (fun sig h => hn.trans (hlen sig h)) hstack hW (by rw [hb]; exact hdg)
    (fun vm₁ hW₁ => ⟨hf.1, hf.2, hPc (T.setVm vm₁) hT hW₁⟩) with ⟨v, vm₁, ⟨U', l2, c2, s2⟩, hW₁, X', ⟨g', mk, t, L, e1, e2, hq, h1, hL, h2, h3⟩, st⟩ | ⟨q, vm₁, ⟨U', l2, c2, s2⟩, hW₁, X', ⟨g', mk, t, L, E, ce, e1, e2, hq, hce, hcv, hcl, h1, hL, h2, h3⟩, st⟩
  · dsimp only [Pt.U, Pt.locs, Pt.cells, Pt.slots] at X' e1 e2 h1 h2 h3 st
    subst h1; subst h2; subst h3
    exact Or.inl ⟨v, (T.setVm vm₁).calling g' mk (Value.ref b :: As).toArray, t, U', L, hT, X', hL, e1, e2, hq, st⟩
  · dsimp only [Pt.U, Pt.locs, Pt.cells, Pt.slots] at X' e1 e2 h1 h2 h3 st hcl
    subst h1; subst h2; subst h3
    exact Or.inr ⟨q, (T.setVm vm₁).calling g' mk (Value.ref b :: As).toArray, t, U', L, E, ce, hT, X', hL, e1, e2, hq, hce, hcv, vx_cls hW₁ hcl, st⟩
end VXIB
/-! ===== END ===== -/
/-! ===== BEGIN a private constructor of a nest mate that throws ===== -/
section VXIC
variable {p : Program} {l : Launch} {e : Env} {R : Room} {s : State} {m : MethodId} {args : Array Value} {below : List Frame} {meth : Method} {c : Code} {T : State} {locs : List Loc} {cells slots : Nat}
theorem vx_callIN (X : Stand p l e R s m args below meth c T locs cells slots) (hexec : p.tables.exec = Jvm.exec) {own : String} {index : Nat} {host : String} {y : MethodName} {bytes : ByteArray} {maxL : Nat}
    (hown : s.vm.findClass own = some m.cls) (hy1 : y.name = "<init>") (hlink : (Cond.methodLinkNest own index y host).before args s = true) (hinst : (Cond.instanceMethod y).before args s = true)
    (hcode : (Cond.code y bytes maxL none).before args s = true) (hy : y.cls ≠ "java/lang/invoke/MethodHandle" ∧ y.cls ≠ "java/lang/invoke/VarHandle")
    {W9 : Nat} {Pre : Pt → Array Value → Prop} {Post : Pt → Array Value → Option Value → Pt → Prop} {PostX : Pt → Array Value → Addr → Pt → Prop} (hK : vx_Back l R p e below s args y 3 W9 Pre Post PostX)
    {g : JFrame} (hg : g.method = m) (hsize : g.locals.size = c.maxLocals) {a : Addr} {argsL rest : List Value} (hlen : ∀ sig, parseMethodDescriptor y.desc = some sig → argsL.length = sig.parameters.length)
    (hstack : g.stack = argsL.reverse ++ .ref a :: rest) (hW : 2 * g.monitorRoom + (rest.map fun v => v.category).sum ≤ W9) (hdg : decode c.code g.pc = .ok (.invokespecial index, 3))
    (hpre : ∀ vm₁, s.WarmedH vm₁ → Pre ⟨T.setVm vm₁, locs, cells, slots⟩ (Value.ref a :: argsL).toArray) :
    (∃ (v : Option Value) (vm₁ : Vm) (B : Pt), s.WarmedH vm₁ ∧ Stand p l e R s m args below meth c B.U B.locs B.cells B.slots ∧ Post ⟨T.setVm vm₁, locs, cells, slots⟩ (Value.ref a :: argsL).toArray v B ∧
      ∀ target, Steps p.tables e below (B.U.setTop { g with pc := g.pc + 3, stack := v.toList ++ rest }) target → Steps p.tables e below (T.setTop g) target) ∨
    (∃ (q : Addr) (vm₁ : Vm) (B : Pt), s.WarmedH vm₁ ∧ Stand p l e R s m args below meth c B.U B.locs B.cells B.slots ∧ PostX ⟨T.setVm vm₁, locs, cells, slots⟩ (Value.ref a :: argsL).toArray q B ∧
      Steps p.tables e below (T.setTop g) ((B.U.setTop { g with stack := rest }).pushFrame (.throwing q))) := by
  subst hg
  have hpl : e.platform.magicAccessors = ({} : Platform).magicAccessors := by rw [X.admits.platform]
  obtain ⟨mk, methM, cM, kP, vm₁, hnamed, hmethM, hcodeM, -, hlocalsM, -, hkP, -, hW₁, hstep₁⟩ := Steps.initColdArgsNest (e := e) X.here hexec X.warmed hpl hown hy1 hy hlink hinst hcode (f := g) rfl hlen hstack hdg
  have X₁ := X.noted hW₁
  rcases hK g.method meth c ⟨T.setVm vm₁, locs, cells, slots⟩ { g with stack := rest } (.invokespecial index) mk (Value.ref a :: argsL).toArray X₁ rfl hsize hdg hW (X₁.named hnamed) (hpre vm₁ X₁.warmed) with ⟨v, B, X', hpost, hsteps⟩ | ⟨q, B, X', hpost, hsteps⟩
  · exact Or.inl ⟨v, vm₁, B, X₁.warmed, X', hpost, fun target h => hstep₁ _ fun acts => by rw [doInvoke_state]; exact hsteps.trans h⟩
  · exact Or.inr ⟨q, vm₁, B, X₁.warmed, X', hpost, hstep₁ _ fun acts => by rw [doInvoke_state]; exact hsteps⟩
end VXIC
section VXID
variable {p : Program} {l : Launch} {e : Env} {R : Room} {s : State} {m : MethodId} {args : Array Value} {below : List Frame} {meth : Method} {c : Code} {H : Heap} {locs : List Loc} {cells slots : Nat}
theorem vx_runIN {y : MethodName} {bytes cc : ByteArray} {maxL nL mc ms n index : Nat} {ws : List Cond} {rm : Room} {Pc : Array Value → State → Prop} {Qc : Array Value → State → Outcome → State → Prop} {XC : String → State → State → Prop} {free : Addr → Prop} {Ts : List Cond} {own host : String} {b : Addr} {As rest : List Value} {g : JFrame}
    (S : CallFix p m c cc nL s args Ts own) (hM : vx_Met l y ws rm Pc Qc XC mc ms free) (cw : va_CN R s args own index y host bytes maxL none ws rm mc ms n ∧ y.name = "<init>" ∧ (Cond.instanceMethod y).before args s = true) (hp : PreS s H Pc (.ref b :: As))
    (hg : g.method = m) (hn : As.length = n) (hsize : g.locals.size = nL) (hstack : g.stack = As.reverse ++ .ref b :: rest) (hW : 2 * g.monitorRoom + (rest.map fun v => v.category).sum ≤ 8) (hdg : decode cc g.pc = .ok (.invokespecial index, 3)) (hf : cells + mc ≤ R.cells ∧ slots + ms ≤ R.slots) :
    vx_Run p l e R s m args below meth c H locs cells slots mc ms g rest (Qc (Value.ref b :: As).toArray) XC free := by
  obtain ⟨⟨⟨hrc, hrs, hfr, hlo, hws, hcw⟩, hcode, hini, hy, hlen, hl⟩, hx1, hx2⟩ := cw
  have hK : vx_Back l R p e below s args y 3 8 (PreOf R mc ms Pc) (PostOf Qc mc ms free) (vx_Post XC mc ms free) := vx_back (bytes := bytes) (maxL := maxL) (ret := none) hM hp.1 hrc hrs hfr hlo hws hcw (fun a' U hW => word_at hW (Or.inl (by first | rfl | simp [Cond.onTables, Cond.keeps, Cond.steady])) hini)
  obtain ⟨hx, hb, hml, ho, -⟩ := S
  have hPc := hp.2
  intro T hT X
  rcases vx_callIN X hx (bytes := bytes) (maxL := maxL) ho hx1 hl hx2 hcode hy hK hg (hsize.trans hml.symm) (a := b) (argsL := As) (rest := rest) (fun sig h => hn.trans (hlen sig h)) hstack hW (by rw [hb]; exact hdg)
    (fun vm₁ hW₁ => ⟨hf.1, hf.2, hPc (T.setVm vm₁) hT hW₁⟩) with ⟨v, vm₁, ⟨U', l2, c2, s2⟩, hW₁, X', ⟨g', mk, t, L, e1, e2, hq, h1, hL, h2, h3⟩, st⟩ | ⟨q, vm₁, ⟨U', l2, c2, s2⟩, hW₁, X', ⟨g', mk, t, L, E, ce, e1, e2, hq, hce, hcv, hcl, h1, hL, h2, h3⟩, st⟩
  · dsimp only [Pt.U, Pt.locs, Pt.cells, Pt.slots] at X' e1 e2 h1 h2 h3 st
    subst h1; subst h2; subst h3
    exact Or.inl ⟨v, (T.setVm vm₁).calling g' mk (Value.ref b :: As).toArray, t, U', L, hT, X', hL, e1, e2, hq, st⟩
  · dsimp only [Pt.U, Pt.locs, Pt.cells, Pt.slots] at X' e1 e2 h1 h2 h3 st hcl
    subst h1; subst h2; subst h3
    exact Or.inr ⟨q, (T.setVm vm₁).calling g' mk (Value.ref b :: As).toArray, t, U', L, E, ce, hT, X', hL, e1, e2, hq, hce, hcv, vx_cls hW₁ hcl, st⟩
end VXID
/-! ===== END ===== -/
/-! ===== BEGIN a method of a class above, found by the receiver, that may throw (follows va_callVU, va_runU of this kit) ===== -/
section
variable {p : Program} {l : Launch} {e : Env} {R : Room} {s : State} {m : MethodId} {args : Array Value} {below : List Frame} {meth : Method} {c : Code} {H : Heap} {locs : List Loc} {cells slots : Nat}
theorem vx_callVU {T : State} {locs : List Loc} {cells slots : Nat} (X : Stand p l e R s m args below meth c T locs cells slots) (hexec : p.tables.exec = Jvm.exec) {own C owner : String} {index : Nat} {x y : MethodName} {bytes : ByteArray} {maxL : Nat} {ret : Option FieldType}
    (hown : s.vm.findClass own = some m.cls) (hlink : (Cond.methodLink own index x).before args s = true) (hsame : (Cond.sameMethod x.cls owner x.name x.desc).before args s = true)
    (hd0 : va_Decl s ⟨owner, x.name, x.desc⟩) (howner : owner ≠ "java/lang/invoke/MethodHandle" ∧ owner ≠ "java/lang/invoke/VarHandle")
    (hsel : (Cond.selects C x y).before args s = true) (hinst : (Cond.instanceMethod y).before args s = true) (hcode : (Cond.code y bytes maxL ret).before args s = true)
    {W : Nat} {Pre : Pt → Array Value → Prop} {Post : Pt → Array Value → Option Value → Pt → Prop} {PostX : Pt → Array Value → Addr → Pt → Prop} (hK : vx_Back l R p e below s args y 3 W Pre Post PostX)
    {b : Addr} {cellB : Cell} (hcell : T.heap[b]? = some cellB) (hobj : cellB.vm.isStatics = false) (hcls : s.vm.findClass C = some cellB.cls)
    {g : JFrame} (hg : g.method = m) (hsize : g.locals.size = c.maxLocals) {argsL rest : List Value} (hlen : ∀ sig, parseMethodDescriptor x.desc = some sig → argsL.length = sig.parameters.length)
    (hstack : g.stack = argsL.reverse ++ .ref b :: rest) (hW : 2 * g.monitorRoom + (rest.map fun v => v.category).sum ≤ W) (hdg : decode c.code g.pc = .ok (.invokevirtual index, 3))
    (hpre : ∀ vm₁, s.WarmedH vm₁ → Pre ⟨T.setVm vm₁, locs, cells, slots⟩ (Value.ref b :: argsL).toArray) :
    (∃ (v : Option Value) (vm₁ : Vm) (B : Pt), s.WarmedH vm₁ ∧ Stand p l e R s m args below meth c B.U B.locs B.cells B.slots ∧ Post ⟨T.setVm vm₁, locs, cells, slots⟩ (Value.ref b :: argsL).toArray v B ∧
      ∀ target, Steps p.tables e below (B.U.setTop { g with pc := g.pc + 3, stack := v.toList ++ rest }) target → Steps p.tables e below (T.setTop g) target) ∨
    (∃ (q : Addr) (vm₁ : Vm) (B : Pt), s.WarmedH vm₁ ∧ Stand p l e R s m args below meth c B.U B.locs B.cells B.slots ∧ PostX ⟨T.setVm vm₁, locs, cells, slots⟩ (Value.ref b :: argsL).toArray q B ∧
      Steps p.tables e below (T.setTop g) ((B.U.setTop { g with stack := rest }).pushFrame (.throwing q))) := by
  obtain ⟨r0, r, hn, hrm, hstR, hsigR⟩ := hd0
  obtain ⟨cn, ck, r1, hcn, hck, hni, hf, hn1⟩ := Cond.sameMethod_found hsame
  cases hn.symm.trans hn1
  obtain ⟨mk, methM, hnamed, hmethM, -, habM⟩ := Cond.instanceMethod_spec hinst
  obtain ⟨c2, r2, m2, q1, q2, q3, q4, kP, hkP, hkPi⟩ := Cond.selects_spec hsel
  cases hcls.symm.trans q1
  cases hf.symm.trans q2
  cases hnamed.symm.trans q3
  have hselP : selectMethod e.platform s.vm cellB.cls r0 = .method mk := by rw [Launch.admits_selectMethod X.admits]; exact q4
  obtain ⟨vm₁, X₁, hstep₁⟩ := X.invokevirtualUp hexec hown hlink hsame howner hn hrm hstR (a := b) (cell := cellB) hcell
    (fun z h => by rw [h] at hobj; cases hobj) hselP hmethM habM hkP hkPi (g := g) hg (argsL := argsL) (rest := rest) (hlen _ hsigR) hstack hdg
  rcases hK m meth c ⟨T.setVm vm₁, locs, cells, slots⟩ { g with stack := rest } (.invokevirtual index) mk (Value.ref b :: argsL).toArray X₁ hg hsize hdg hW (X₁.named hnamed) (hpre vm₁ X₁.warmed) with ⟨v, B, X', hpost, hsteps⟩ | ⟨q, B, X', hpost, hsteps⟩
  · exact Or.inl ⟨v, vm₁, B, X₁.warmed, X', hpost, fun target h => hstep₁ _ fun acts => by rw [doInvoke_state]; exact hsteps.trans h⟩
  · exact Or.inr ⟨q, vm₁, B, X₁.warmed, X', hpost, hstep₁ _ fun acts => by rw [doInvoke_state]; exact hsteps⟩
theorem vx_runU {x y : MethodName} {bytes cc : ByteArray} {maxL nL mc ms n index : Nat} {ret : Option FieldType} {ws : List Cond} {rm : Room} {Pc : Array Value → State → Prop} {Qc : Array Value → State → Outcome → State → Prop} {XC : String → State → State → Prop} {free : Addr → Prop} {Ts : List Cond} {own C owner : String} {b : Addr} {As rest : List Value} {g : JFrame}
    (S : CallFix p m c cc nL s args Ts own) (hM : vx_Met l y ws rm Pc Qc XC mc ms free) (cw : va_CU R s args own C owner index x y bytes maxL ret ws rm mc ms n) (hp : PreV s H C b Pc As)
    (hg : g.method = m) (hn : As.length = n) (hsize : g.locals.size = nL) (hstack : g.stack = As.reverse ++ .ref b :: rest) (hW : 2 * g.monitorRoom + (rest.map fun v => v.category).sum ≤ 8) (hdg : decode cc g.pc = .ok (.invokevirtual index, 3)) (hf : cells + mc ≤ R.cells ∧ slots + ms ≤ R.slots) :
    vx_Run p l e R s m args below meth c H locs cells slots mc ms g rest (Qc (Value.ref b :: As).toArray) XC free := by
  obtain ⟨hrc, hrs, hfr, hlo, hws, hcw⟩ := cw.back
  have hini := cw.init
  have hK : vx_Back l R p e below s args y 3 8 (PreOf R mc ms Pc) (PostOf Qc mc ms free) (vx_Post XC mc ms free) := vx_back (bytes := bytes) (maxL := maxL) (ret := ret) hM hp.1 hrc hrs hfr hlo hws hcw (fun a' U hW => word_at hW (Or.inl (by first | rfl | simp [Cond.onTables, Cond.keeps, Cond.steady])) hini)
  obtain ⟨hx, hb, hml, ho, -⟩ := S
  obtain ⟨-, ⟨cellB, hcB, hoB, hclB⟩, hPc⟩ := hp
  intro T hT X
  rcases vx_callVU X hx (C := C) (owner := owner) (bytes := bytes) (maxL := maxL) (ret := ret) ho cw.link cw.same cw.decl cw.notMH cw.sel cw.inst cw.code hK (by rw [hT]; exact hcB) hoB hclB hg (hsize.trans hml.symm) (argsL := As) (rest := rest) (fun sig h => hn.trans (cw.len sig h)) hstack hW (by rw [hb]; exact hdg)
    (fun vm₁ hW₁ => ⟨hf.1, hf.2, hPc (T.setVm vm₁) hT hW₁⟩) with ⟨v, vm₁, ⟨U', l2, c2, s2⟩, hW₁, X', ⟨g', mk, t, L, e1, e2, hq, h1, hL, h2, h3⟩, st⟩ | ⟨q, vm₁, ⟨U', l2, c2, s2⟩, hW₁, X', ⟨g', mk, t, L, E, ce, e1, e2, hq, hce, hcv, hcl, h1, hL, h2, h3⟩, st⟩
  · dsimp only [Pt.U, Pt.locs, Pt.cells, Pt.slots] at X' e1 e2 h1 h2 h3 st
    subst h1; subst h2; subst h3
    exact Or.inl ⟨v, (T.setVm vm₁).calling g' mk (Value.ref b :: As).toArray, t, U', L, hT, X', hL, e1, e2, hq, st⟩
  · dsimp only [Pt.U, Pt.locs, Pt.cells, Pt.slots] at X' e1 e2 h1 h2 h3 st hcl
    subst h1; subst h2; subst h3
    exact Or.inr ⟨q, (T.setVm vm₁).calling g' mk (Value.ref b :: As).toArray, t, U', L, E, ce, hT, X', hL, e1, e2, hq, hce, hcv, vx_cls hW₁ hcl, st⟩
end
/-! ===== END ===== -/
/-! ===== BEGIN super.m(..) that may throw (follows va_callSU, va_runSU) ===== -/
section
variable {p : Program} {l : Launch} {e : Env} {R : Room} {s : State} {m : MethodId} {args : Array Value} {below : List Frame} {meth : Method} {c : Code} {H : Heap} {locs : List Loc} {cells slots : Nat}
theorem vx_callSU {T : State} {locs : List Loc} {cells slots : Nat} (X : Stand p l e R s m args below meth c T locs cells slots) (hexec : p.tables.exec = Jvm.exec) {own : String} {index : Nat} {y : MethodName} {bytes : ByteArray} {maxL : Nat} {ret : Option FieldType}
    (hown : s.vm.findClass own = some m.cls) (hlink : (Cond.methodLink own index y).before args s = true) (hsame : (Cond.sameMethod y.cls y.cls y.name y.desc).before args s = true) (hsup : (Cond.superclass own y.cls).before args s = true)
    (hinst : (Cond.instanceMethod y).before args s = true) (hcode : (Cond.code y bytes maxL ret).before args s = true) (hno : y.name ≠ "<init>")
    {W : Nat} {Pre : Pt → Array Value → Prop} {Post : Pt → Array Value → Option Value → Pt → Prop} {PostX : Pt → Array Value → Addr → Pt → Prop} (hK : vx_Back l R p e below s args y 3 W Pre Post PostX)
    {b : Addr} {cellB : Cell} {kB : Class} (hcell : T.heap[b]? = some cellB) (hobj : cellB.vm.isStatics = false) (hkB : s.vm.classes[cellB.cls]? = some kB)
    {g : JFrame} (hg : g.method = m) (hsize : g.locals.size = c.maxLocals) {argsL rest : List Value} (hlen : ∀ sig, parseMethodDescriptor y.desc = some sig → argsL.length = sig.parameters.length)
    (hstack : g.stack = argsL.reverse ++ .ref b :: rest) (hW : 2 * g.monitorRoom + (rest.map fun v => v.category).sum ≤ W) (hdg : decode c.code g.pc = .ok (.invokespecial index, 3))
    (hpre : ∀ vm₁, s.WarmedH vm₁ → Pre ⟨T.setVm vm₁, locs, cells, slots⟩ (Value.ref b :: argsL).toArray) :
    (∃ (v : Option Value) (vm₁ : Vm) (B : Pt), s.WarmedH vm₁ ∧ Stand p l e R s m args below meth c B.U B.locs B.cells B.slots ∧ Post ⟨T.setVm vm₁, locs, cells, slots⟩ (Value.ref b :: argsL).toArray v B ∧
      ∀ target, Steps p.tables e below (B.U.setTop { g with pc := g.pc + 3, stack := v.toList ++ rest }) target → Steps p.tables e below (T.setTop g) target) ∨
    (∃ (q : Addr) (vm₁ : Vm) (B : Pt), s.WarmedH vm₁ ∧ Stand p l e R s m args below meth c B.U B.locs B.cells B.slots ∧ PostX ⟨T.setVm vm₁, locs, cells, slots⟩ (Value.ref b :: argsL).toArray q B ∧
      Steps p.tables e below (T.setTop g) ((B.U.setTop { g with stack := rest }).pushFrame (.throwing q))) := by
  obtain ⟨mk, methM, hnamed, hmethM, hstM, habM⟩ := Cond.instanceMethod_spec hinst
  obtain ⟨methM', cM, hmethM', -, -, -, -, -, -, hsigM⟩ := Cond.code_spec hnamed hcode
  cases hmethM.symm.trans hmethM'
  obtain ⟨ps, dk, kp, hps, hdk, hkp, hsuper, -, -, hnid⟩ := Cond.superclass_spec hown hsup
  have hn : s.methodNamed? ⟨y.cls, y.name, y.desc⟩ = some mk := hnamed
  have hpm : ps = mk.cls := Option.some.inj (hps.symm.trans (findClass_of_methodNamed hnamed))
  have hsub : s.vm.isSubclass ps mk.cls = true := by rw [hpm]; simp [Vm.isSubclass, Vm.isSubclassAux]
  obtain ⟨vm₁, X₁, hstep₁⟩ := X.invokespecialUp hexec hown hlink hsame hn hmethM hstM habM hno hdk hnid hps hsuper hsub (a := b) (cell := cellB) hcell
    (fun z h => by rw [h] at hobj; cases hobj) hkB (g := g) hg (argsL := argsL) (rest := rest) (hlen _ hsigM) hstack hdg
  rcases hK m meth c ⟨T.setVm vm₁, locs, cells, slots⟩ { g with stack := rest } (.invokespecial index) mk (Value.ref b :: argsL).toArray X₁ hg hsize hdg hW (X₁.named hnamed) (hpre vm₁ X₁.warmed) with ⟨v, B, X', hpost, hsteps⟩ | ⟨q, B, X', hpost, hsteps⟩
  · exact Or.inl ⟨v, vm₁, B, X₁.warmed, X', hpost, fun target h => hstep₁ _ (by rw [doInvoke_state]; exact hsteps.trans h)⟩
  · exact Or.inr ⟨q, vm₁, B, X₁.warmed, X', hpost, hstep₁ _ (by rw [doInvoke_state]; exact hsteps)⟩
theorem vx_runSU {y : MethodName} {bytes cc : ByteArray} {maxL nL mc ms n index : Nat} {ret : Option FieldType} {ws : List Cond} {rm : Room} {Pc : Array Value → State → Prop} {Qc : Array Value → State → Outcome → State → Prop} {XC : String → State → State → Prop} {free : Addr → Prop} {Ts : List Cond} {own C : String} {cC : ClassId} {b : Addr} {As rest : List Value} {g : JFrame}
    (hat : ClassAt s C cC) (S : CallFix p m c cc nL s args Ts own) (hM : vx_Met l y ws rm Pc Qc XC mc ms free) (cw : va_CS R s args own index y bytes maxL ret ws rm mc ms n) (hp : PreV s H C b Pc As)
    (hg : g.method = m) (hn : As.length = n) (hsize : g.locals.size = nL) (hstack : g.stack = As.reverse ++ .ref b :: rest) (hW : 2 * g.monitorRoom + (rest.map fun v => v.category).sum ≤ 8) (hdg : decode cc g.pc = .ok (.invokespecial index, 3)) (hf : cells + mc ≤ R.cells ∧ slots + ms ≤ R.slots) :
    vx_Run p l e R s m args below meth c H locs cells slots mc ms g rest (Qc (Value.ref b :: As).toArray) XC free := by
  obtain ⟨⟨hrc, hrs, hfr, hlo, hws, hcw⟩, hl1, hl2, hl3, hl4, hini, hcode, hno, hlen⟩ := cw
  have hK : vx_Back l R p e below s args y 3 8 (PreOf R mc ms Pc) (PostOf Qc mc ms free) (vx_Post XC mc ms free) := vx_back (bytes := bytes) (maxL := maxL) (ret := ret) hM hp.1 hrc hrs hfr hlo hws hcw (fun a' U hW => word_at hW (Or.inl (by first | rfl | simp [Cond.onTables, Cond.keeps, Cond.steady])) hini)
  obtain ⟨hx, hb, hml, ho, -⟩ := S
  obtain ⟨-, ⟨cellB, hcB, hoB, hclB⟩, hPc⟩ := hp
  obtain ⟨hfc, kB, hkB, -⟩ := hat
  cases hfc.symm.trans hclB
  intro T hT X
  rcases vx_callSU X hx (bytes := bytes) (maxL := maxL) (ret := ret) ho hl1 hl2 hl3 hl4 hcode hno hK (by rw [hT]; exact hcB) hoB hkB hg (hsize.trans hml.symm) (argsL := As) (rest := rest) (fun sig h => hn.trans (hlen sig h)) hstack hW (by rw [hb]; exact hdg)
    (fun vm₁ hW₁ => ⟨hf.1, hf.2, hPc (T.setVm vm₁) hT hW₁⟩) with ⟨v, vm₁, ⟨U', l2, c2, s2⟩, hW₁, X', ⟨g', mk, t, L, e1, e2, hq, h1, hL, h2, h3⟩, st⟩ | ⟨q, vm₁, ⟨U', l2, c2, s2⟩, hW₁, X', ⟨g', mk, t, L, E, ce, e1, e2, hq, hce, hcv, hcl, h1, hL, h2, h3⟩, st⟩
  · dsimp only [Pt.U, Pt.locs, Pt.cells, Pt.slots] at X' e1 e2 h1 h2 h3 st
    subst h1; subst h2; subst h3
    exact Or.inl ⟨v, (T.setVm vm₁).calling g' mk (Value.ref b :: As).toArray, t, U', L, hT, X', hL, e1, e2, hq, st⟩
  · dsimp only [Pt.U, Pt.locs, Pt.cells, Pt.slots] at X' e1 e2 h1 h2 h3 st hcl
    subst h1; subst h2; subst h3
    exact Or.inr ⟨q, (T.setVm vm₁).calling g' mk (Value.ref b :: As).toArray, t, U', L, E, ce, hT, X', hL, e1, e2, hq, hce, hcv, vx_cls hW₁ hcl, st⟩
end
/-! ===== END ===== -/
/-! ===== BEGIN a private method of a nest mate that may throw (follows va_callVN, va_callSN, va_runVN, va_runSN) ===== -/
section
variable {p : Program} {l : Launch} {e : Env} {R : Room} {s : State} {m : MethodId} {args : Array Value} {below : List Frame} {meth : Method} {c : Code} {H : Heap} {locs : List Loc} {cells slots : Nat}
variable {T : State}
theorem vx_callVN (X : Stand p l e R s m args below meth c T locs cells slots) (hexec : p.tables.exec = Jvm.exec) {own C : String} {index : Nat} {host : String} {y : MethodName} {bytes : ByteArray} {maxL : Nat} {ret : Option FieldType}
    (hown : s.vm.findClass own = some m.cls) (hlink : (Cond.methodLinkNest own index y host).before args s = true) (hinst : (Cond.instanceMethod y).before args s = true) (hsel : (Cond.selects C y y).before args s = true)
    (hcode : (Cond.code y bytes maxL ret).before args s = true) (hy : y.cls ≠ "java/lang/invoke/MethodHandle" ∧ y.cls ≠ "java/lang/invoke/VarHandle")
    {W : Nat} {Pre : Pt → Array Value → Prop} {Post : Pt → Array Value → Option Value → Pt → Prop} {PostX : Pt → Array Value → Addr → Pt → Prop} (hK : vx_Back l R p e below s args y 3 W Pre Post PostX)
    {b : Addr} {cellB : Cell} (hcell : T.heap[b]? = some cellB) (hobj : cellB.vm.isStatics = false) (hcls : s.vm.findClass C = some cellB.cls)
    {g : JFrame} (hg : g.method = m) (hsize : g.locals.size = c.maxLocals) {argsL rest : List Value} (hlen : ∀ sig, parseMethodDescriptor y.desc = some sig → argsL.length = sig.parameters.length)
    (hstack : g.stack = argsL.reverse ++ .ref b :: rest) (hW : 2 * g.monitorRoom + (rest.map fun v => v.category).sum ≤ W) (hdg : decode c.code g.pc = .ok (.invokevirtual index, 3))
    (hpre : ∀ vm₁, s.WarmedH vm₁ → Pre ⟨T.setVm vm₁, locs, cells, slots⟩ (Value.ref b :: argsL).toArray) :
    (∃ (v : Option Value) (vm₁ : Vm) (B : Pt), s.WarmedH vm₁ ∧ Stand p l e R s m args below meth c B.U B.locs B.cells B.slots ∧ Post ⟨T.setVm vm₁, locs, cells, slots⟩ (Value.ref b :: argsL).toArray v B ∧
      ∀ target, Steps p.tables e below (B.U.setTop { g with pc := g.pc + 3, stack := v.toList ++ rest }) target → Steps p.tables e below (T.setTop g) target) ∨
    (∃ (q : Addr) (vm₁ : Vm) (B : Pt), s.WarmedH vm₁ ∧ Stand p l e R s m args below meth c B.U B.locs B.cells B.slots ∧ PostX ⟨T.setVm vm₁, locs, cells, slots⟩ (Value.ref b :: argsL).toArray q B ∧
      Steps p.tables e below (T.setTop g) ((B.U.setTop { g with stack := rest }).pushFrame (.throwing q))) := by
  obtain ⟨mk, methM, hnamed, hmethM, hstM, habM⟩ := Cond.instanceMethod_spec hinst
  obtain ⟨methM', cM, hmethM', -, -, -, -, -, -, hsigM⟩ := Cond.code_spec hnamed hcode
  cases hmethM.symm.trans hmethM'
  obtain ⟨c2, r2, m2, q1, q2, q3, q4, kP, hkP, hkPi⟩ := Cond.selects_spec hsel
  cases hcls.symm.trans q1
  cases (State.methodFound?_of_named hnamed hy).symm.trans q2
  cases hnamed.symm.trans q3
  have hselP : selectMethod e.platform s.vm cellB.cls mk = .method mk := by rw [Launch.admits_selectMethod X.admits]; exact q4
  obtain ⟨vm₁, X₁, hstep₁⟩ := X.invokevirtualNest hexec hown hlink hnamed hmethM hstM hkP hkPi hy (a := b) (cell := cellB) hcell
    (fun z h => by rw [h] at hobj; cases hobj) hselP hmethM habM hkP hkPi (g := g) hg (argsL := argsL) (rest := rest) (hlen _ hsigM) hstack hdg
  rcases hK m meth c ⟨T.setVm vm₁, locs, cells, slots⟩ { g with stack := rest } (.invokevirtual index) mk (Value.ref b :: argsL).toArray X₁ hg hsize hdg hW (X₁.named hnamed) (hpre vm₁ X₁.warmed) with ⟨v, B, X', hpost, hsteps⟩ | ⟨q, B, X', hpost, hsteps⟩
  · exact Or.inl ⟨v, vm₁, B, X₁.warmed, X', hpost, fun target h => hstep₁ _ fun acts => by rw [doInvoke_state]; exact hsteps.trans h⟩
  · exact Or.inr ⟨q, vm₁, B, X₁.warmed, X', hpost, hstep₁ _ fun acts => by rw [doInvoke_state]; exact hsteps⟩
theorem vx_callSN (X : Stand p l e R s m args below meth c T locs cells slots) (hexec : p.tables.exec = Jvm.exec) {own : String} {index : Nat} {host : String} {y : MethodName} {bytes : ByteArray} {maxL : Nat} {ret : Option FieldType}
    (hown : s.vm.findClass own = some m.cls) (hlink : (Cond.methodLinkNest own index y host).before args s = true) (hstat : (Cond.static y).before args s = true) (hinit : (Cond.initialized y.cls).before args s = true)
    (hcode : (Cond.code y bytes maxL ret).before args s = true) (hy : y.cls ≠ "java/lang/invoke/MethodHandle" ∧ y.cls ≠ "java/lang/invoke/VarHandle")
    {W : Nat} {Pre : Pt → Array Value → Prop} {Post : Pt → Array Value → Option Value → Pt → Prop} {PostX : Pt → Array Value → Addr → Pt → Prop} (hK : vx_Back l R p e below s args y 3 W Pre Post PostX)
    {g : JFrame} (hg : g.method = m) (hsize : g.locals.size = c.maxLocals) {argsL rest : List Value} (hlen : ∀ sig, parseMethodDescriptor y.desc = some sig → argsL.length = sig.parameters.length)
    (hstack : g.stack = argsL.reverse ++ rest) (hW : 2 * g.monitorRoom + (rest.map fun v => v.category).sum ≤ W) (hdg : decode c.code g.pc = .ok (.invokestatic index, 3))
    (hpre : ∀ vm₁, s.WarmedH vm₁ → Pre ⟨T.setVm vm₁, locs, cells, slots⟩ argsL.toArray) :
    (∃ (v : Option Value) (vm₁ : Vm) (B : Pt), s.WarmedH vm₁ ∧ Stand p l e R s m args below meth c B.U B.locs B.cells B.slots ∧ Post ⟨T.setVm vm₁, locs, cells, slots⟩ argsL.toArray v B ∧
      ∀ target, Steps p.tables e below (B.U.setTop { g with pc := g.pc + 3, stack := v.toList ++ rest }) target → Steps p.tables e below (T.setTop g) target) ∨
    (∃ (q : Addr) (vm₁ : Vm) (B : Pt), s.WarmedH vm₁ ∧ Stand p l e R s m args below meth c B.U B.locs B.cells B.slots ∧ PostX ⟨T.setVm vm₁, locs, cells, slots⟩ argsL.toArray q B ∧
      Steps p.tables e below (T.setTop g) ((B.U.setTop { g with stack := rest }).pushFrame (.throwing q))) := by
  obtain ⟨mk, hnamed⟩ := Cond.code_named hcode
  obtain ⟨methM, cM, hmethM, -, -, -, -, -, -, hsigM⟩ := Cond.code_spec hnamed hcode
  have hstatic : methM.isStatic = true := Cond.static_spec hnamed hmethM hstat
  obtain ⟨kP, hkP, -⟩ := className_of_methodNamed hnamed
  have hinitP : kP.init = .initialized := Cond.initialized_spec (findClass_of_methodNamed hnamed) hkP hinit
  obtain ⟨vm₁, X₁, hstep₁⟩ := X.invokestaticNest hexec hown hlink hnamed hmethM hstatic hkP hinitP hy (g := g) hg (argsL := argsL) (rest := rest) (hlen _ hsigM) hstack hdg
  rcases hK m meth c ⟨T.setVm vm₁, locs, cells, slots⟩ { g with stack := rest } (.invokestatic index) mk argsL.toArray X₁ hg hsize hdg hW (X₁.named hnamed) (hpre vm₁ X₁.warmed) with ⟨v, B, X', hpost, hsteps⟩ | ⟨q, B, X', hpost, hsteps⟩
  · exact Or.inl ⟨v, vm₁, B, X₁.warmed, X', hpost, fun target h => hstep₁ _ fun acts => by rw [doInvoke_state]; exact hsteps.trans h⟩
  · exact Or.inr ⟨q, vm₁, B, X₁.warmed, X', hpost, hstep₁ _ fun acts => by rw [doInvoke_state]; exact hsteps⟩
theorem vx_runVN {y : MethodName} {bytes cc : ByteArray} {maxL nL mc ms n index : Nat} {ret : Option FieldType} {ws : List Cond} {rm : Room} {Pc : Array Value → State → Prop} {Qc : Array Value → State → Outcome → State → Prop} {XC : String → State → State → Prop} {free : Addr → Prop} {Ts : List Cond} {own C host : String} {b : Addr} {As rest : List Value} {g : JFrame}
    (S : CallFix p m c cc nL s args Ts own) (hM : vx_Met l y ws rm Pc Qc XC mc ms free) (cw : va_CN R s args own index y host bytes maxL ret ws rm mc ms n ∧ (Cond.instanceMethod y).before args s = true ∧ (Cond.selects C y y).before args s = true) (hp : PreV s H C b Pc As)
    (hg : g.method = m) (hn : As.length = n) (hsize : g.locals.size = nL) (hstack : g.stack = As.reverse ++ .ref b :: rest) (hW : 2 * g.monitorRoom + (rest.map fun v => v.category).sum ≤ 8) (hdg : decode cc g.pc = .ok (.invokevirtual index, 3)) (hf : cells + mc ≤ R.cells ∧ slots + ms ≤ R.slots) :
    vx_Run p l e R s m args below meth c H locs cells slots mc ms g rest (Qc (Value.ref b :: As).toArray) XC free := by
  obtain ⟨⟨⟨hrc, hrs, hfr, hlo, hws, hcw⟩, hcode, hini, hy, hlen, hl⟩, hx1, hx2⟩ := cw
  have hK : vx_Back l R p e below s args y 3 8 (PreOf R mc ms Pc) (PostOf Qc mc ms free) (vx_Post XC mc ms free) := vx_back (bytes := bytes) (maxL := maxL) (ret := ret) hM hp.1 hrc hrs hfr hlo hws hcw (fun a' U hW => word_at hW (Or.inl (by first | rfl | simp [Cond.onTables, Cond.keeps, Cond.steady])) hini)
  obtain ⟨hx, hb, hml, ho, -⟩ := S
  obtain ⟨-, ⟨cellB, hcB, hoB, hclB⟩, hPc⟩ := hp
  intro T hT X
  rcases vx_callVN X hx (C := C) (bytes := bytes) (maxL := maxL) (ret := ret) ho hl hx1 hx2 hcode hy hK (by rw [hT]; exact hcB) hoB hclB hg (hsize.trans hml.symm) (argsL := As) (rest := rest) (fun sig h => hn.trans (hlen sig h)) hstack hW (by rw [hb]; exact hdg)
    (fun vm₁ hW₁ => ⟨hf.1, hf.2, hPc (T.setVm vm₁) hT hW₁⟩) with ⟨v, vm₁, ⟨U', l2, c2, s2⟩, hW₁, X', ⟨g', mk, t, L, e1, e2, hq, h1, hL, h2, h3⟩, st⟩ | ⟨q, vm₁, ⟨U', l2, c2, s2⟩, hW₁, X', ⟨g', mk, t, L, E, ce, e1, e2, hq, hce, hcv, hcl, h1, hL, h2, h3⟩, st⟩
  · dsimp only [Pt.U, Pt.locs, Pt.cells, Pt.slots] at X' e1 e2 h1 h2 h3 st
    subst h1; subst h2; subst h3
    exact Or.inl ⟨v, (T.setVm vm₁).calling g' mk (Value.ref b :: As).toArray, t, U', L, hT, X', hL, e1, e2, hq, st⟩
  · dsimp only [Pt.U, Pt.locs, Pt.cells, Pt.slots] at X' e1 e2 h1 h2 h3 st hcl
    subst h1; subst h2; subst h3
    exact Or.inr ⟨q, (T.setVm vm₁).calling g' mk (Value.ref b :: As).toArray, t, U', L, E, ce, hT, X', hL, e1, e2, hq, hce, hcv, vx_cls hW₁ hcl, st⟩
theorem vx_runSN {y : MethodName} {bytes cc : ByteArray} {maxL nL mc ms n index : Nat} {ret : Option FieldType} {ws : List Cond} {rm : Room} {Pc : Array Value → State → Prop} {Qc : Array Value → State → Outcome → State → Prop} {XC : String → State → State → Prop} {free : Addr → Prop} {Ts : List Cond} {own host : String} {As rest : List Value} {g : JFrame}
    (S : CallFix p m c cc nL s args Ts own) (hM : vx_Met l y ws rm Pc Qc XC mc ms free) (cw : va_CN R s args own index y host bytes maxL ret ws rm mc ms n ∧ (Cond.static y).before args s = true ∧ True) (hp : PreS s H Pc As)
    (hg : g.method = m) (hn : As.length = n) (hsize : g.locals.size = nL) (hstack : g.stack = As.reverse ++ rest) (hW : 2 * g.monitorRoom + (rest.map fun v => v.category).sum ≤ 8) (hdg : decode cc g.pc = .ok (.invokestatic index, 3)) (hf : cells + mc ≤ R.cells ∧ slots + ms ≤ R.slots) :
    vx_Run p l e R s m args below meth c H locs cells slots mc ms g rest (Qc As.toArray) XC free := by
  obtain ⟨⟨⟨hrc, hrs, hfr, hlo, hws, hcw⟩, hcode, hini, hy, hlen, hl⟩, hx1, hx2⟩ := cw
  have hK : vx_Back l R p e below s args y 3 8 (PreOf R mc ms Pc) (PostOf Qc mc ms free) (vx_Post XC mc ms free) := vx_back (bytes := bytes) (maxL := maxL) (ret := ret) hM hp.1 hrc hrs hfr hlo hws hcw (fun a' U hW => word_at hW (Or.inl (by first | rfl | simp [Cond.onTables, Cond.keeps, Cond.steady])) hini)
  obtain ⟨hx, hb, hml, ho, -⟩ := S
  have hPc := hp.2
  intro T hT X
  rcases vx_callSN X hx (bytes := bytes) (maxL := maxL) (ret := ret) ho hl hx1 hini hcode hy hK hg (hsize.trans hml.symm) (argsL := As) (rest := rest) (fun sig h => hn.trans (hlen sig h)) hstack hW (by rw [hb]; exact hdg)
    (fun vm₁ hW₁ => ⟨hf.1, hf.2, hPc (T.setVm vm₁) hT hW₁⟩) with ⟨v, vm₁, ⟨U', l2, c2, s2⟩, hW₁, X', ⟨g', mk, t, L, e1, e2, hq, h1, hL, h2, h3⟩, st⟩ | ⟨q, vm₁, ⟨U', l2, c2, s2⟩, hW₁, X', ⟨g', mk, t, L, E, ce, e1, e2, hq, hce, hcv, hcl, h1, hL, h2, h3⟩, st⟩
  · dsimp only [Pt.U, Pt.locs, Pt.cells, Pt.slots] at X' e1 e2 h1 h2 h3 st
    subst h1; subst h2; subst h3
    exact Or.inl ⟨v, (T.setVm vm₁).calling g' mk As.toArray, t, U', L, hT, X', hL, e1, e2, hq, st⟩
  · dsimp only [Pt.U, Pt.locs, Pt.cells, Pt.slots] at X' e1 e2 h1 h2 h3 st hcl
    subst h1; subst h2; subst h3
    exact Or.inr ⟨q, (T.setVm vm₁).calling g' mk As.toArray, t, U', L, E, ce, hT, X', hL, e1, e2, hq, hce, hcv, vx_cls hW₁ hcl, st⟩
end
/-! ===== END ===== -/
/-! ===== BEGIN calls by an interface of methods that may throw (vx_callIF, vx_runF follow va_callIF, va_runF of this kit) ===== -/
section
variable {p : Program} {l : Launch} {e : Env} {R : Room} {s : State} {m : MethodId} {args : Array Value} {below : List Frame} {meth : Method} {c : Code} {H : Heap} {locs : List Loc} {cells slots : Nat} {Q : State → Prop}
variable {mc ms : Nat} {free : Addr → Prop} {A0 A1 : Nat → Prop} {H0 : Heap} {a : Array Value} {pc : Nat} {ls : Array Slot} {st0 rest : List Value}
def vx_Run5 (p : Program) (l : Launch) (e : Env) (R : Room) (s : State) (m : MethodId) (args : Array Value) (below : List Frame) (meth : Method) (c : Code) (H : Heap) (locs : List Loc) (cells slots mc ms : Nat) (g : JFrame) (rest : List Value) (Qa : State → Outcome → State → Prop) (XC : String → State → State → Prop) (free : Addr → Prop) : Prop :=
  ∀ T : State, T.heap = H → Stand p l e R s m args below meth c T locs cells slots →
    (∃ (v : Option Value) (st₀ t T' : State) (L : List Loc), st₀.heap = H ∧ Stand p l e R s m args below meth c T' (locs ++ L) (cells + mc) (slots + ms) ∧ (∀ q ∈ L, free q.base) ∧ T'.heap = t.heap ∧ T'.vm = t.vm ∧ Qa st₀ (.returned v) t ∧
      Goes p e below T g T' { g with pc := g.pc + 5, stack := v.toList ++ rest }) ∨
    (∃ (q : Addr) (st₀ t T' : State) (L : List Loc) (E : String) (ce : Cell), st₀.heap = H ∧ Stand p l e R s m args below meth c T' (locs ++ L) (cells + mc) (slots + ms) ∧ (∀ z ∈ L, free z.base) ∧ T'.heap = t.heap ∧ T'.vm = t.vm ∧ XC E st₀ t ∧ t.heap[q]? = some ce ∧ ce.vm = .none ∧ s.vm.findClass E = some ce.cls ∧
      Steps p.tables e below (T.setTop g) ((T'.setTop { g with stack := rest }).pushFrame (.throwing q)))
theorem vx_callIF {T : State} (X : Stand p l e R s m args below meth c T locs cells slots) (hexec : p.tables.exec = Jvm.exec) {own C : String} {index count : Nat} {x y : MethodName} {bytes : ByteArray} {maxL : Nat} {ret : Option FieldType}
    (hown : s.vm.findClass own = some m.cls) (hlink : (Cond.methodLink own index x).before args s = true) (hdecl : (Cond.declares x).before args s = true) (hface : (Cond.interfaceMethod x.cls x.cls x.name x.desc).before args s = true)
    (hsel : (Cond.selects C x y).before args s = true) (hinst : (Cond.instanceMethod y).before args s = true) (hpub : (Cond.publicMethod y).before args s = true) (hunh : (Cond.unhidden C x.name x.desc).before args s = true)
    (hcast : (Cond.castable C x.cls).before args s = true) (hcode : (Cond.code y bytes maxL ret).before args s = true) (hx : x.cls ≠ "java/lang/invoke/MethodHandle" ∧ x.cls ≠ "java/lang/invoke/VarHandle")
    {W9 : Nat} {Pre : Pt → Array Value → Prop} {Post : Pt → Array Value → Option Value → Pt → Prop} {PostX : Pt → Array Value → Addr → Pt → Prop} (hK : vx_Back l R p e below s args y 5 W9 Pre Post PostX)
    {b : Addr} {cellB : Cell} {kB : Class} (hcell : T.heap[b]? = some cellB) (hobj : cellB.vm.isStatics = false) (hcls : s.vm.findClass C = some cellB.cls) (hkB : s.vm.classes[cellB.cls]? = some kB)
    {g : JFrame} (hg : g.method = m) (hsize : g.locals.size = c.maxLocals) {argsL rest : List Value} (hlen : ∀ sig, parseMethodDescriptor x.desc = some sig → argsL.length = sig.parameters.length)
    (hstack : g.stack = argsL.reverse ++ .ref b :: rest) (hW : 2 * g.monitorRoom + (rest.map fun v => v.category).sum ≤ W9) (hdg : decode c.code g.pc = .ok (.invokeinterface index count, 5))
    (hpre : ∀ vm₁, s.WarmedH vm₁ → Pre ⟨T.setVm vm₁, locs, cells, slots⟩ (Value.ref b :: argsL).toArray) :
    (∃ (v : Option Value) (vm₁ : Vm) (B : Pt), s.WarmedH vm₁ ∧ Stand p l e R s m args below meth c B.U B.locs B.cells B.slots ∧ Post ⟨T.setVm vm₁, locs, cells, slots⟩ (Value.ref b :: argsL).toArray v B ∧
      ∀ target, Steps p.tables e below (B.U.setTop { g with pc := g.pc + 5, stack := v.toList ++ rest }) target → Steps p.tables e below (T.setTop g) target) ∨
    (∃ (q : Addr) (vm₁ : Vm) (B : Pt), s.WarmedH vm₁ ∧ Stand p l e R s m args below meth c B.U B.locs B.cells B.slots ∧ PostX ⟨T.setVm vm₁, locs, cells, slots⟩ (Value.ref b :: argsL).toArray q B ∧
      Steps p.tables e below (T.setTop g) ((B.U.setTop { g with stack := rest }).pushFrame (.throwing q))) := by
  obtain ⟨r0, r, hn, hrm, hstR, hsigR⟩ := Cond.declares_spec hdecl
  obtain ⟨cL, kL, r1, hcL, hkL, hiL, hfoundL, hn1⟩ := Cond.interfaceMethod_spec hface
  cases hn.symm.trans hn1
  have hr0cls : r0.cls = cL := Option.some.inj ((findClass_of_methodNamed hn).symm.trans hcL)
  obtain ⟨hnameR, hdescR⟩ := name_of_methodNamed hn hrm
  obtain ⟨mk, methM, hnamed, hmethM, -, habM⟩ := Cond.instanceMethod_spec hinst
  obtain ⟨c2, r2, m2, q1, q2, q3, q4, -⟩ := Cond.selects_spec hsel
  cases hcls.symm.trans q1
  cases hfoundL.symm.trans q2
  cases hnamed.symm.trans q3
  have hselP : selectMethod e.platform s.vm cellB.cls r0 = .method mk := by rw [Launch.admits_selectMethod X.admits]; exact q4
  have hpubM : hasFlag methM.accessFlags Acc.public_ = true := Cond.publicMethod_spec hnamed hmethM hpub
  have hway : ((cellB.cls :: s.vm.superclasses cellB.cls).any fun k => (declaredIn s.vm r.name r.desc k).any fun (_, z) => z.isPrivate || z.isStatic) = false := by
    rw [hnameR, hdescR]; exact Cond.unhidden_spec hcls hunh
  obtain ⟨c3, t3, w1, w2, w3⟩ := Cond.castable_spec hcast
  cases hcls.symm.trans w1
  cases hcL.symm.trans w2
  obtain ⟨vm₁, X₁, hstep₁⟩ := X.invokeinterface hexec hown hlink hn hrm hstR (by rw [hr0cls]; exact hkL) hiL hx (a := b) (cell := cellB) (kcell := kB) hcell
    (fun z h => by rw [h] at hobj; cases hobj) hkB (by rw [hr0cls]; exact w3) hselP hmethM hway hpubM habM (g := g) hg (argsL := argsL) (rest := rest) (hlen _ hsigR) hstack hdg
  rcases hK m meth c ⟨T.setVm vm₁, locs, cells, slots⟩ { g with stack := rest } (.invokeinterface index count) mk (Value.ref b :: argsL).toArray X₁ hg hsize hdg hW (X₁.named hnamed) (hpre vm₁ X₁.warmed) with ⟨v, B, X', hpost, hsteps⟩ | ⟨q, B, X', hpost, hsteps⟩
  · exact Or.inl ⟨v, vm₁, B, X₁.warmed, X', hpost, fun target h => hstep₁ _ fun acts => by rw [doInvoke_state]; exact hsteps.trans h⟩
  · exact Or.inr ⟨q, vm₁, B, X₁.warmed, X', hpost, hstep₁ _ fun acts => by rw [doInvoke_state]; exact hsteps⟩
theorem vx_runF {x y : MethodName} {bytes cc : ByteArray} {maxL nL mc ms n index count : Nat} {ret : Option FieldType} {ws : List Cond} {rm : Room} {Pc : Array Value → State → Prop} {Qc : Array Value → State → Outcome → State → Prop} {XC : String → State → State → Prop} {free : Addr → Prop} {Ts : List Cond} {own C : String} {cC : ClassId} {b : Addr} {As rest : List Value} {g : JFrame}
    (hat : ClassAt s C cC) (S : CallFix p m c cc nL s args Ts own) (hM : vx_Met l y ws rm Pc Qc XC mc ms free) (cw : va_CI R s args own C index x y bytes maxL ret ws rm mc ms n) (hp : PreV s H C b Pc As)
    (hg : g.method = m) (hn : As.length = n) (hsize : g.locals.size = nL) (hstack : g.stack = As.reverse ++ .ref b :: rest) (hW : 2 * g.monitorRoom + (rest.map fun v => v.category).sum ≤ 8) (hdg : decode cc g.pc = .ok (.invokeinterface index count, 5)) (hf : cells + mc ≤ R.cells ∧ slots + ms ≤ R.slots) :
    vx_Run5 p l e R s m args below meth c H locs cells slots mc ms g rest (Qc (Value.ref b :: As).toArray) XC free := by
  obtain ⟨hrc, hrs, hfr, hlo, hws, hcw⟩ := cw.back
  have hini := cw.init
  have hK : vx_Back l R p e below s args y 5 8 (PreOf R mc ms Pc) (PostOf Qc mc ms free) (vx_Post XC mc ms free) := vx_back (bytes := bytes) (maxL := maxL) (ret := ret) hM hp.1 hrc hrs hfr hlo hws hcw (fun a' U hW => word_at hW (Or.inl (by first | rfl | simp [Cond.onTables, Cond.keeps, Cond.steady])) hini)
  obtain ⟨hx, hb, hml, ho, -⟩ := S
  obtain ⟨-, ⟨cellB, hcB, hoB, hclB⟩, hPc⟩ := hp
  obtain ⟨hfc, kB, hkB, -⟩ := hat
  cases hfc.symm.trans hclB
  intro T hT X
  rcases vx_callIF X hx (C := C) (bytes := bytes) (maxL := maxL) (ret := ret) ho cw.link cw.decl cw.face cw.sel cw.inst cw.pub cw.unh cw.cast cw.code cw.notMH hK (by rw [hT]; exact hcB) hoB hclB hkB hg (hsize.trans hml.symm) (argsL := As) (rest := rest) (fun sig h => hn.trans (cw.len sig h)) hstack hW (by rw [hb]; exact hdg)
    (fun vm₁ hW₁ => ⟨hf.1, hf.2, hPc (T.setVm vm₁) hT hW₁⟩) with ⟨v, vm₁, ⟨U', l2, c2, s2⟩, hW₁, X', ⟨g', mk, t, L, e1, e2, hq, h1, hL, h2, h3⟩, st⟩ | ⟨q, vm₁, ⟨U', l2, c2, s2⟩, hW₁, X', ⟨g', mk, t, L, E, ce, e1, e2, hq, hce, hcv, hcl, h1, hL, h2, h3⟩, st⟩
  · dsimp only [Pt.U, Pt.locs, Pt.cells, Pt.slots] at X' e1 e2 h1 h2 h3 st
    subst h1; subst h2; subst h3
    exact Or.inl ⟨v, (T.setVm vm₁).calling g' mk (Value.ref b :: As).toArray, t, U', L, hT, X', hL, e1, e2, hq, st⟩
  · dsimp only [Pt.U, Pt.locs, Pt.cells, Pt.slots] at X' e1 e2 h1 h2 h3 st hcl
    subst h1; subst h2; subst h3
    exact Or.inr ⟨q, (T.setVm vm₁).calling g' mk (Value.ref b :: As).toArray, t, U', L, E, ce, hT, X', hL, e1, e2, hq, hce, hcv, vx_cls hW₁ hcl, st⟩
theorem vx_callFv {S SX : Type} {post : S → Prop} {px : SX → Prop} {B : S → State → Prop} {BX : String → SX → State → Prop} {AX : Nat → Prop} (hr : vx_Run5 p l e R s m args below meth c H locs cells slots mc ms (F0 m pc ls st0) rest (va_Qv post B A1 a) (vx_X px BX AX) free) (hS : va_S A0 H0 H locs) (hA : ∀ q, q < H.size → A1 q → A0 q) (hf : ∀ q, free q → A0 q) (hAX : ∀ q, q < H.size → AX q → A0 q)
    (kx : ∀ (E : String) (ce : Cell) (q9 : Addr) (u : SX) (t : State) (H1 : Heap) (locs1 : List Loc), t.heap = H1 → s.vm.Alike t.vm → px u → BX E u t → H.size ≤ H1.size → (∀ q : Nat, q < H.size → ¬ AX q → H1[q]? = H[q]?) → va_S A0 H0 H1 locs1 → H1[q9]? = some ce → ce.vm = .none → s.vm.findClass E = some ce.cls → vx_W p l e R s m args below meth c H1 locs1 (cells + mc) (slots + ms) Q (F0 m pc ls rest) q9)
    (kk : ∀ (u : S) (t : State) (H1 : Heap) (locs1 : List Loc), t.heap = H1 → s.vm.Alike t.vm → post u → B u t → H.size ≤ H1.size → (∀ q : Nat, q < H.size → ¬ A1 q → H1[q]? = H[q]?) → va_S A0 H0 H1 locs1 → W p l e R s m args below meth c H1 locs1 (cells + mc) (slots + ms) Q (F0 m (pc + 5) ls (rest))) : W p l e R s m args below meth c H locs cells slots Q (F0 m pc ls st0) := by
  intro T hT X
  rcases hr T hT X with ⟨v, st₀, t, T', L, h0, X', hL, e1, e2, ⟨⟨u, hv, hp, hb⟩, hF⟩, st⟩ | ⟨q, st₀, t, T', L, E, ce, h0, X', hL, e1, e2, ⟨u, hp, hb, hF⟩, hce, hcv, hcl, st⟩
  · cases hv
    obtain ⟨k1, k2, k3⟩ := vx_keep h0 e1 hS hA hf hL hF
    obtain ⟨t2, a1, b1⟩ := kk u t T'.heap (locs ++ L) e1.symm (by rw [← e2]; exact X'.warmed.alike) hp hb k1 k2 k3 T' rfl X'
    exact ⟨t2, st t2 a1, b1⟩
  · obtain ⟨k1, k2, k3⟩ := vx_keep h0 e1 hS hAX hf hL hF
    obtain ⟨t2, a1, b1⟩ := kx E ce q u t T'.heap (locs ++ L) e1.symm (by rw [← e2]; exact X'.warmed.alike) hp hb k1 k2 k3 (by rw [e1]; exact hce) hcv hcl T' rfl X'
    exact ⟨t2, st.trans a1, b1⟩
theorem vx_callFi {S SX : Type} {post : Int32 → S → Prop} {px : SX → Prop} {B : S → State → Prop} {BX : String → SX → State → Prop} {AX : Nat → Prop} (hr : vx_Run5 p l e R s m args below meth c H locs cells slots mc ms (F0 m pc ls st0) rest (va_Qi post B A1 a) (vx_X px BX AX) free) (hS : va_S A0 H0 H locs) (hA : ∀ q, q < H.size → A1 q → A0 q) (hf : ∀ q, free q → A0 q) (hAX : ∀ q, q < H.size → AX q → A0 q)
    (kx : ∀ (E : String) (ce : Cell) (q9 : Addr) (u : SX) (t : State) (H1 : Heap) (locs1 : List Loc), t.heap = H1 → s.vm.Alike t.vm → px u → BX E u t → H.size ≤ H1.size → (∀ q : Nat, q < H.size → ¬ AX q → H1[q]? = H[q]?) → va_S A0 H0 H1 locs1 → H1[q9]? = some ce → ce.vm = .none → s.vm.findClass E = some ce.cls → vx_W p l e R s m args below meth c H1 locs1 (cells + mc) (slots + ms) Q (F0 m pc ls rest) q9)
    (kk : ∀ (r : Int32) (u : S) (t : State) (H1 : Heap) (locs1 : List Loc), t.heap = H1 → s.vm.Alike t.vm → post r u → B u t → H.size ≤ H1.size → (∀ q : Nat, q < H.size → ¬ A1 q → H1[q]? = H[q]?) → va_S A0 H0 H1 locs1 → W p l e R s m args below meth c H1 locs1 (cells + mc) (slots + ms) Q (F0 m (pc + 5) ls (.int r :: rest))) : W p l e R s m args below meth c H locs cells slots Q (F0 m pc ls st0) := by
  intro T hT X
  rcases hr T hT X with ⟨v, st₀, t, T', L, h0, X', hL, e1, e2, ⟨⟨r, u, hv, hp, hb⟩, hF⟩, st⟩ | ⟨q, st₀, t, T', L, E, ce, h0, X', hL, e1, e2, ⟨u, hp, hb, hF⟩, hce, hcv, hcl, st⟩
  · cases hv
    obtain ⟨k1, k2, k3⟩ := vx_keep h0 e1 hS hA hf hL hF
    obtain ⟨t2, a1, b1⟩ := kk r u t T'.heap (locs ++ L) e1.symm (by rw [← e2]; exact X'.warmed.alike) hp hb k1 k2 k3 T' rfl X'
    exact ⟨t2, st t2 a1, b1⟩
  · obtain ⟨k1, k2, k3⟩ := vx_keep h0 e1 hS hAX hf hL hF
    obtain ⟨t2, a1, b1⟩ := kx E ce q u t T'.heap (locs ++ L) e1.symm (by rw [← e2]; exact X'.warmed.alike) hp hb k1 k2 k3 (by rw [e1]; exact hce) hcv hcl T' rfl X'
    exact ⟨t2, st.trans a1, b1⟩
theorem vx_callFl {S SX : Type} {post : Int64 → S → Prop} {px : SX → Prop} {B : S → State → Prop} {BX : String → SX → State → Prop} {AX : Nat → Prop} (hr : vx_Run5 p l e R s m args below meth c H locs cells slots mc ms (F0 m pc ls st0) rest (va_Ql post B A1 a) (vx_X px BX AX) free) (hS : va_S A0 H0 H locs) (hA : ∀ q, q < H.size → A1 q → A0 q) (hf : ∀ q, free q → A0 q) (hAX : ∀ q, q < H.size → AX q → A0 q)
    (kx : ∀ (E : String) (ce : Cell) (q9 : Addr) (u : SX) (t : State) (H1 : Heap) (locs1 : List Loc), t.heap = H1 → s.vm.Alike t.vm → px u → BX E u t → H.size ≤ H1.size → (∀ q : Nat, q < H.size → ¬ AX q → H1[q]? = H[q]?) → va_S A0 H0 H1 locs1 → H1[q9]? = some ce → ce.vm = .none → s.vm.findClass E = some ce.cls → vx_W p l e R s m args below meth c H1 locs1 (cells + mc) (slots + ms) Q (F0 m pc ls rest) q9)
    (kk : ∀ (r : Int64) (u : S) (t : State) (H1 : Heap) (locs1 : List Loc), t.heap = H1 → s.vm.Alike t.vm → post r u → B u t → H.size ≤ H1.size → (∀ q : Nat, q < H.size → ¬ A1 q → H1[q]? = H[q]?) → va_S A0 H0 H1 locs1 → W p l e R s m args below meth c H1 locs1 (cells + mc) (slots + ms) Q (F0 m (pc + 5) ls (.long r :: rest))) : W p l e R s m args below meth c H locs cells slots Q (F0 m pc ls st0) := by
  intro T hT X
  rcases hr T hT X with ⟨v, st₀, t, T', L, h0, X', hL, e1, e2, ⟨⟨r, u, hv, hp, hb⟩, hF⟩, st⟩ | ⟨q, st₀, t, T', L, E, ce, h0, X', hL, e1, e2, ⟨u, hp, hb, hF⟩, hce, hcv, hcl, st⟩
  · cases hv
    obtain ⟨k1, k2, k3⟩ := vx_keep h0 e1 hS hA hf hL hF
    obtain ⟨t2, a1, b1⟩ := kk r u t T'.heap (locs ++ L) e1.symm (by rw [← e2]; exact X'.warmed.alike) hp hb k1 k2 k3 T' rfl X'
    exact ⟨t2, st t2 a1, b1⟩
  · obtain ⟨k1, k2, k3⟩ := vx_keep h0 e1 hS hAX hf hL hF
    obtain ⟨t2, a1, b1⟩ := kx E ce q u t T'.heap (locs ++ L) e1.symm (by rw [← e2]; exact X'.warmed.alike) hp hb k1 k2 k3 (by rw [e1]; exact hce) hcv hcl T' rfl X'
    exact ⟨t2, st.trans a1, b1⟩
theorem vx_callFf {S SX : Type} {post : UInt32 → S → Prop} {px : SX → Prop} {B : S → State → Prop} {BX : String → SX → State → Prop} {AX : Nat → Prop} (hr : vx_Run5 p l e R s m args below meth c H locs cells slots mc ms (F0 m pc ls st0) rest (va_Qf post B A1 a) (vx_X px BX AX) free) (hS : va_S A0 H0 H locs) (hA : ∀ q, q < H.size → A1 q → A0 q) (hf : ∀ q, free q → A0 q) (hAX : ∀ q, q < H.size → AX q → A0 q)
    (kx : ∀ (E : String) (ce : Cell) (q9 : Addr) (u : SX) (t : State) (H1 : Heap) (locs1 : List Loc), t.heap = H1 → s.vm.Alike t.vm → px u → BX E u t → H.size ≤ H1.size → (∀ q : Nat, q < H.size → ¬ AX q → H1[q]? = H[q]?) → va_S A0 H0 H1 locs1 → H1[q9]? = some ce → ce.vm = .none → s.vm.findClass E = some ce.cls → vx_W p l e R s m args below meth c H1 locs1 (cells + mc) (slots + ms) Q (F0 m pc ls rest) q9)
    (kk : ∀ (r : UInt32) (u : S) (t : State) (H1 : Heap) (locs1 : List Loc), t.heap = H1 → s.vm.Alike t.vm → post r u → B u t → H.size ≤ H1.size → (∀ q : Nat, q < H.size → ¬ A1 q → H1[q]? = H[q]?) → va_S A0 H0 H1 locs1 → W p l e R s m args below meth c H1 locs1 (cells + mc) (slots + ms) Q (F0 m (pc + 5) ls (.float r :: rest))) : W p l e R s m args below meth c H locs cells slots Q (F0 m pc ls st0) := by
  intro T hT X
  rcases hr T hT X with ⟨v, st₀, t, T', L, h0, X', hL, e1, e2, ⟨⟨r, u, hv, hp, hb⟩, hF⟩, st⟩ | ⟨q, st₀, t, T', L, E, ce, h0, X', hL, e1, e2, ⟨u, hp, hb, hF⟩, hce, hcv, hcl, st⟩
  · cases hv
    obtain ⟨k1, k2, k3⟩ := vx_keep h0 e1 hS hA hf hL hF
    obtain ⟨t2, a1, b1⟩ := kk r u t T'.heap (locs ++ L) e1.symm (by rw [← e2]; exact X'.warmed.alike) hp hb k1 k2 k3 T' rfl X'
    exact ⟨t2, st t2 a1, b1⟩
  · obtain ⟨k1, k2, k3⟩ := vx_keep h0 e1 hS hAX hf hL hF
    obtain ⟨t2, a1, b1⟩ := kx E ce q u t T'.heap (locs ++ L) e1.symm (by rw [← e2]; exact X'.warmed.alike) hp hb k1 k2 k3 (by rw [e1]; exact hce) hcv hcl T' rfl X'
    exact ⟨t2, st.trans a1, b1⟩
theorem vx_callFd {S SX : Type} {post : UInt64 → S → Prop} {px : SX → Prop} {B : S → State → Prop} {BX : String → SX → State → Prop} {AX : Nat → Prop} (hr : vx_Run5 p l e R s m args below meth c H locs cells slots mc ms (F0 m pc ls st0) rest (va_Qd post B A1 a) (vx_X px BX AX) free) (hS : va_S A0 H0 H locs) (hA : ∀ q, q < H.size → A1 q → A0 q) (hf : ∀ q, free q → A0 q) (hAX : ∀ q, q < H.size → AX q → A0 q)
    (kx : ∀ (E : String) (ce : Cell) (q9 : Addr) (u : SX) (t : State) (H1 : Heap) (locs1 : List Loc), t.heap = H1 → s.vm.Alike t.vm → px u → BX E u t → H.size ≤ H1.size → (∀ q : Nat, q < H.size → ¬ AX q → H1[q]? = H[q]?) → va_S A0 H0 H1 locs1 → H1[q9]? = some ce → ce.vm = .none → s.vm.findClass E = some ce.cls → vx_W p l e R s m args below meth c H1 locs1 (cells + mc) (slots + ms) Q (F0 m pc ls rest) q9)
    (kk : ∀ (r : UInt64) (u : S) (t : State) (H1 : Heap) (locs1 : List Loc), t.heap = H1 → s.vm.Alike t.vm → post r u → B u t → H.size ≤ H1.size → (∀ q : Nat, q < H.size → ¬ A1 q → H1[q]? = H[q]?) → va_S A0 H0 H1 locs1 → W p l e R s m args below meth c H1 locs1 (cells + mc) (slots + ms) Q (F0 m (pc + 5) ls (.double r :: rest))) : W p l e R s m args below meth c H locs cells slots Q (F0 m pc ls st0) := by
  intro T hT X
  rcases hr T hT X with ⟨v, st₀, t, T', L, h0, X', hL, e1, e2, ⟨⟨r, u, hv, hp, hb⟩, hF⟩, st⟩ | ⟨q, st₀, t, T', L, E, ce, h0, X', hL, e1, e2, ⟨u, hp, hb, hF⟩, hce, hcv, hcl, st⟩
  · cases hv
    obtain ⟨k1, k2, k3⟩ := vx_keep h0 e1 hS hA hf hL hF
    obtain ⟨t2, a1, b1⟩ := kk r u t T'.heap (locs ++ L) e1.symm (by rw [← e2]; exact X'.warmed.alike) hp hb k1 k2 k3 T' rfl X'
    exact ⟨t2, st t2 a1, b1⟩
  · obtain ⟨k1, k2, k3⟩ := vx_keep h0 e1 hS hAX hf hL hF
    obtain ⟨t2, a1, b1⟩ := kx E ce q u t T'.heap (locs ++ L) e1.symm (by rw [← e2]; exact X'.warmed.alike) hp hb k1 k2 k3 (by rw [e1]; exact hce) hcv hcl T' rfl X'
    exact ⟨t2, st.trans a1, b1⟩
end
/-! ===== END ===== -/
/-! ===== BEGIN by an interface, a method with a table of its own that may throw (follows va_callIFW, va_runFW) ===== -/
section
variable {p : Program} {l : Launch} {e : Env} {R : Room} {s : State} {m : MethodId} {args : Array Value} {below : List Frame} {meth : Method} {c : Code} {H : Heap} {locs : List Loc} {cells slots : Nat}
theorem vx_callIFW {T : State} (X : Stand p l e R s m args below meth c T locs cells slots) (hexec : p.tables.exec = Jvm.exec) {own C : String} {index count : Nat} {x y : MethodName} {bytes : ByteArray} {maxL : Nat} {ret : Option FieldType} {hh : List (Nat × Nat × Nat × Nat)}
    (hown : s.vm.findClass own = some m.cls) (hlink : (Cond.methodLink own index x).before args s = true) (hdecl : (Cond.declares x).before args s = true) (hface : (Cond.interfaceMethod x.cls x.cls x.name x.desc).before args s = true)
    (hsel : (Cond.selects C x y).before args s = true) (hinst : (Cond.instanceMethod y).before args s = true) (hpub : (Cond.publicMethod y).before args s = true) (hunh : (Cond.unhidden C x.name x.desc).before args s = true)
    (hcast : (Cond.castable C x.cls).before args s = true) (hcode : (Cond.codeWith y bytes maxL ret hh).before args s = true) (hx : x.cls ≠ "java/lang/invoke/MethodHandle" ∧ x.cls ≠ "java/lang/invoke/VarHandle")
    {W : Nat} {Pre : Pt → Array Value → Prop} {Post : Pt → Array Value → Option Value → Pt → Prop} {PostX : Pt → Array Value → Addr → Pt → Prop} (hK : vx_Back l R p e below s args y 5 W Pre Post PostX)
    {b : Addr} {cellB : Cell} {kB : Class} (hcell : T.heap[b]? = some cellB) (hobj : cellB.vm.isStatics = false) (hcls : s.vm.findClass C = some cellB.cls) (hkB : s.vm.classes[cellB.cls]? = some kB)
    {g : JFrame} (hg : g.method = m) (hsize : g.locals.size = c.maxLocals) {argsL rest : List Value} (hlen : ∀ sig, parseMethodDescriptor x.desc = some sig → argsL.length = sig.parameters.length)
    (hstack : g.stack = argsL.reverse ++ .ref b :: rest) (hW : 2 * g.monitorRoom + (rest.map fun v => v.category).sum ≤ W) (hdg : decode c.code g.pc = .ok (.invokeinterface index count, 5))
    (hpre : ∀ vm₁, s.WarmedH vm₁ → Pre ⟨T.setVm vm₁, locs, cells, slots⟩ (Value.ref b :: argsL).toArray) :
    (∃ (v : Option Value) (vm₁ : Vm) (B : Pt), s.WarmedH vm₁ ∧ Stand p l e R s m args below meth c B.U B.locs B.cells B.slots ∧ Post ⟨T.setVm vm₁, locs, cells, slots⟩ (Value.ref b :: argsL).toArray v B ∧
      ∀ target, Steps p.tables e below (B.U.setTop { g with pc := g.pc + 5, stack := v.toList ++ rest }) target → Steps p.tables e below (T.setTop g) target) ∨
    (∃ (q : Addr) (vm₁ : Vm) (B : Pt), s.WarmedH vm₁ ∧ Stand p l e R s m args below meth c B.U B.locs B.cells B.slots ∧ PostX ⟨T.setVm vm₁, locs, cells, slots⟩ (Value.ref b :: argsL).toArray q B ∧
      Steps p.tables e below (T.setTop g) ((B.U.setTop { g with stack := rest }).pushFrame (.throwing q))) := by
  obtain ⟨r0, r, hn, hrm, hstR, hsigR⟩ := Cond.declares_spec hdecl
  obtain ⟨cL, kL, r1, hcL, hkL, hiL, hfoundL, hn1⟩ := Cond.interfaceMethod_spec hface
  cases hn.symm.trans hn1
  have hr0cls : r0.cls = cL := Option.some.inj ((findClass_of_methodNamed hn).symm.trans hcL)
  obtain ⟨hnameR, hdescR⟩ := name_of_methodNamed hn hrm
  obtain ⟨mk, methM, hnamed, hmethM, -, habM⟩ := Cond.instanceMethod_spec hinst
  obtain ⟨c2, r2, m2, q1, q2, q3, q4, -⟩ := Cond.selects_spec hsel
  cases hcls.symm.trans q1
  cases hfoundL.symm.trans q2
  cases hnamed.symm.trans q3
  have hselP : selectMethod e.platform s.vm cellB.cls r0 = .method mk := by rw [Launch.admits_selectMethod X.admits]; exact q4
  have hpubM : hasFlag methM.accessFlags Acc.public_ = true := Cond.publicMethod_spec hnamed hmethM hpub
  have hway : ((cellB.cls :: s.vm.superclasses cellB.cls).any fun k => (declaredIn s.vm r.name r.desc k).any fun (_, z) => z.isPrivate || z.isStatic) = false := by
    rw [hnameR, hdescR]; exact Cond.unhidden_spec hcls hunh
  obtain ⟨c3, t3, w1, w2, w3⟩ := Cond.castable_spec hcast
  cases hcls.symm.trans w1
  cases hcL.symm.trans w2
  obtain ⟨vm₁, X₁, hstep₁⟩ := X.invokeinterface hexec hown hlink hn hrm hstR (by rw [hr0cls]; exact hkL) hiL hx (a := b) (cell := cellB) (kcell := kB) hcell
    (fun z h => by rw [h] at hobj; cases hobj) hkB (by rw [hr0cls]; exact w3) hselP hmethM hway hpubM habM (g := g) hg (argsL := argsL) (rest := rest) (hlen _ hsigR) hstack hdg
  rcases hK m meth c ⟨T.setVm vm₁, locs, cells, slots⟩ { g with stack := rest } (.invokeinterface index count) mk (Value.ref b :: argsL).toArray X₁ hg hsize hdg hW (X₁.named hnamed) (hpre vm₁ X₁.warmed) with ⟨v, B, X', hpost, hsteps⟩ | ⟨q, B, X', hpost, hsteps⟩
  · exact Or.inl ⟨v, vm₁, B, X₁.warmed, X', hpost, fun target h => hstep₁ _ fun acts => by rw [doInvoke_state]; exact hsteps.trans h⟩
  · exact Or.inr ⟨q, vm₁, B, X₁.warmed, X', hpost, hstep₁ _ fun acts => by rw [doInvoke_state]; exact hsteps⟩
theorem vx_runFW {x y : MethodName} {bytes cc : ByteArray} {maxL nL mc ms n index count : Nat} {ret : Option FieldType} {hh : List (Nat × Nat × Nat × Nat)} {ws : List Cond} {rm : Room} {Pc : Array Value → State → Prop} {Qc : Array Value → State → Outcome → State → Prop} {XC : String → State → State → Prop} {free : Addr → Prop} {Ts : List Cond} {own C : String} {cC : ClassId} {b : Addr} {As rest : List Value} {g : JFrame}
    (hat : ClassAt s C cC) (S : CallFix p m c cc nL s args Ts own) (hM : vx_Met l y ws rm Pc Qc XC mc ms free) (cw : va_CIW R s args own C index x y bytes maxL ret hh ws rm mc ms n) (hp : PreV s H C b Pc As)
    (hg : g.method = m) (hn : As.length = n) (hsize : g.locals.size = nL) (hstack : g.stack = As.reverse ++ .ref b :: rest) (hW : 2 * g.monitorRoom + (rest.map fun v => v.category).sum ≤ 8) (hdg : decode cc g.pc = .ok (.invokeinterface index count, 5)) (hf : cells + mc ≤ R.cells ∧ slots + ms ≤ R.slots) :
    vx_Run5 p l e R s m args below meth c H locs cells slots mc ms g rest (Qc (Value.ref b :: As).toArray) XC free := by
  obtain ⟨hrc, hrs, hfr, hlo, hws, hcw⟩ := cw.back
  have hini := cw.init
  have hK : vx_Back l R p e below s args y 5 8 (PreOf R mc ms Pc) (PostOf Qc mc ms free) (vx_Post XC mc ms free) := vx_backW (hh := hh) (bytes := bytes) (maxL := maxL) (ret := ret) hM hp.1 hrc hrs hfr hlo hws hcw (fun a' U hW => word_at hW (Or.inl (by first | rfl | simp [Cond.onTables, Cond.keeps, Cond.steady])) hini)
  obtain ⟨hx, hb, hml, ho, -⟩ := S
  obtain ⟨-, ⟨cellB, hcB, hoB, hclB⟩, hPc⟩ := hp
  obtain ⟨hfc, kB, hkB, -⟩ := hat
  cases hfc.symm.trans hclB
  intro T hT X
  rcases vx_callIFW X hx (C := C) (hh := hh) (bytes := bytes) (maxL := maxL) (ret := ret) ho cw.link cw.decl cw.face cw.sel cw.inst cw.pub cw.unh cw.cast cw.code cw.notMH hK (by rw [hT]; exact hcB) hoB hclB hkB hg (hsize.trans hml.symm) (argsL := As) (rest := rest) (fun sig h => hn.trans (cw.len sig h)) hstack hW (by rw [hb]; exact hdg)
    (fun vm₁ hW₁ => ⟨hf.1, hf.2, hPc (T.setVm vm₁) hT hW₁⟩) with ⟨v, vm₁, ⟨U', l2, c2, s2⟩, hW₁, X', ⟨g', mk, t, L, e1, e2, hq, h1, hL, h2, h3⟩, st⟩ | ⟨q, vm₁, ⟨U', l2, c2, s2⟩, hW₁, X', ⟨g', mk, t, L, E, ce, e1, e2, hq, hce, hcv, hcl, h1, hL, h2, h3⟩, st⟩
  · dsimp only [Pt.U, Pt.locs, Pt.cells, Pt.slots] at X' e1 e2 h1 h2 h3 st
    subst h1; subst h2; subst h3
    exact Or.inl ⟨v, (T.setVm vm₁).calling g' mk (Value.ref b :: As).toArray, t, U', L, hT, X', hL, e1, e2, hq, st⟩
  · dsimp only [Pt.U, Pt.locs, Pt.cells, Pt.slots] at X' e1 e2 h1 h2 h3 st hcl
    subst h1; subst h2; subst h3
    exact Or.inr ⟨q, (T.setVm vm₁).calling g' mk (Value.ref b :: As).toArray, t, U', L, E, ce, hT, X', hL, e1, e2, hq, hce, hcv, vx_cls hW₁ hcl, st⟩
end
/-! ===== END ===== -/
/-! ===== BEGIN .. of methods that hand back an object of the pool ===== -/
section
variable {p : Program} {l : Launch} {e : Env} {R : Room} {s : State} {m : MethodId} {args : Array Value} {below : List Frame} {meth : Method} {c : Code} {H : Heap} {locs : List Loc} {cells slots : Nat} {Q : State → Prop}
variable {mc ms : Nat} {free : Addr → Prop} {A0 A1 : Nat → Prop} {H0 : Heap} {a : Array Value} {pc : Nat} {ls : Array Slot} {st0 rest : List Value}
theorem vx_callq {S SX : Type} {post : Option Nat → S → Prop} {px : SX → Prop} {B : S → State → Prop} {BX : String → SX → State → Prop} {AX : Nat → Prop} (hr : vx_Run p l e R s m args below meth c H locs cells slots mc ms (F0 m pc ls st0) rest (va_Qq post B A1 a) (vx_X px BX AX) free) (hS : va_S A0 H0 H locs) (hA : ∀ q, q < H.size → A1 q → A0 q) (hf : ∀ q, free q → A0 q) (hAX : ∀ q, q < H.size → AX q → A0 q)
    (kx : ∀ (E : String) (ce : Cell) (q9 : Addr) (u : SX) (t : State) (H1 : Heap) (locs1 : List Loc), t.heap = H1 → s.vm.Alike t.vm → px u → BX E u t → H.size ≤ H1.size → (∀ q : Nat, q < H.size → ¬ AX q → H1[q]? = H[q]?) → va_S A0 H0 H1 locs1 → H1[q9]? = some ce → ce.vm = .none → s.vm.findClass E = some ce.cls → vx_W p l e R s m args below meth c H1 locs1 (cells + mc) (slots + ms) Q (F0 m pc ls rest) q9)
    (kk : ∀ (r : Option Nat) (u : S) (t : State) (H1 : Heap) (locs1 : List Loc), t.heap = H1 → s.vm.Alike t.vm → post r u → B u t → H.size ≤ H1.size → (∀ q : Nat, q < H.size → ¬ A1 q → H1[q]? = H[q]?) → va_S A0 H0 H1 locs1 → W p l e R s m args below meth c H1 locs1 (cells + mc) (slots + ms) Q (F0 m (pc + 3) ls (va_rf r :: rest))) : W p l e R s m args below meth c H locs cells slots Q (F0 m pc ls st0) := by
  intro T hT X
  rcases hr T hT X with ⟨v, st₀, t, T', L, h0, X', hL, e1, e2, ⟨⟨r, u, hv, hp, hb⟩, hF⟩, st⟩ | ⟨q, st₀, t, T', L, E, ce, h0, X', hL, e1, e2, ⟨u, hp, hb, hF⟩, hce, hcv, hcl, st⟩
  · cases hv
    obtain ⟨k1, k2, k3⟩ := vx_keep h0 e1 hS hA hf hL hF
    obtain ⟨t2, a1, b1⟩ := kk r u t T'.heap (locs ++ L) e1.symm (by rw [← e2]; exact X'.warmed.alike) hp hb k1 k2 k3 T' rfl X'
    exact ⟨t2, st t2 a1, b1⟩
  · obtain ⟨k1, k2, k3⟩ := vx_keep h0 e1 hS hAX hf hL hF
    obtain ⟨t2, a1, b1⟩ := kx E ce q u t T'.heap (locs ++ L) e1.symm (by rw [← e2]; exact X'.warmed.alike) hp hb k1 k2 k3 (by rw [e1]; exact hce) hcv hcl T' rfl X'
    exact ⟨t2, st.trans a1, b1⟩
end
/-! ===== END ===== -/
/-! ===== BEGIN .. a constant ===== -/
section
variable {p : Program} {l : Launch} {e : Env} {R : Room} {s : State} {m : MethodId} {args : Array Value} {below : List Frame} {meth : Method} {c : Code} {H : Heap} {locs : List Loc} {cells slots : Nat} {Q : State → Prop}
variable {mc ms : Nat} {free : Addr → Prop} {A0 A1 : Nat → Prop} {H0 : Heap} {a : Array Value} {pc : Nat} {ls : Array Slot} {st0 rest : List Value}
theorem vx_calle {ad : Nat → Nat} {S SX : Type} {post : Option Nat → S → Prop} {px : SX → Prop} {B : S → State → Prop} {BX : String → SX → State → Prop} {AX : Nat → Prop} (hr : vx_Run p l e R s m args below meth c H locs cells slots mc ms (F0 m pc ls st0) rest (va_Qe ad post B A1 a) (vx_X px BX AX) free) (hS : va_S A0 H0 H locs) (hA : ∀ q, q < H.size → A1 q → A0 q) (hf : ∀ q, free q → A0 q) (hAX : ∀ q, q < H.size → AX q → A0 q)
    (kx : ∀ (E : String) (ce : Cell) (q9 : Addr) (u : SX) (t : State) (H1 : Heap) (locs1 : List Loc), t.heap = H1 → s.vm.Alike t.vm → px u → BX E u t → H.size ≤ H1.size → (∀ q : Nat, q < H.size → ¬ AX q → H1[q]? = H[q]?) → va_S A0 H0 H1 locs1 → H1[q9]? = some ce → ce.vm = .none → s.vm.findClass E = some ce.cls → vx_W p l e R s m args below meth c H1 locs1 (cells + mc) (slots + ms) Q (F0 m pc ls rest) q9)
    (kk : ∀ (r : Option Nat) (u : S) (t : State) (H1 : Heap) (locs1 : List Loc), t.heap = H1 → s.vm.Alike t.vm → post r u → B u t → H.size ≤ H1.size → (∀ q : Nat, q < H.size → ¬ A1 q → H1[q]? = H[q]?) → va_S A0 H0 H1 locs1 → W p l e R s m args below meth c H1 locs1 (cells + mc) (slots + ms) Q (F0 m (pc + 3) ls (va_re ad r :: rest))) : W p l e R s m args below meth c H locs cells slots Q (F0 m pc ls st0) := by
  intro T hT X
  rcases hr T hT X with ⟨v, st₀, t, T', L, h0, X', hL, e1, e2, ⟨⟨r, u, hv, hp, hb⟩, hF⟩, st⟩ | ⟨q, st₀, t, T', L, E, ce, h0, X', hL, e1, e2, ⟨u, hp, hb, hF⟩, hce, hcv, hcl, st⟩
  · cases hv
    obtain ⟨k1, k2, k3⟩ := vx_keep h0 e1 hS hA hf hL hF
    obtain ⟨t2, a1, b1⟩ := kk r u t T'.heap (locs ++ L) e1.symm (by rw [← e2]; exact X'.warmed.alike) hp hb k1 k2 k3 T' rfl X'
    exact ⟨t2, st t2 a1, b1⟩
  · obtain ⟨k1, k2, k3⟩ := vx_keep h0 e1 hS hAX hf hL hF
    obtain ⟨t2, a1, b1⟩ := kx E ce q u t T'.heap (locs ++ L) e1.symm (by rw [← e2]; exact X'.warmed.alike) hp hb k1 k2 k3 (by rw [e1]; exact hce) hcv hcl T' rfl X'
    exact ⟨t2, st.trans a1, b1⟩
end
/-! ===== END ===== -/
/-! ===== BEGIN .. by an interface, an object ===== -/
section
variable {p : Program} {l : Launch} {e : Env} {R : Room} {s : State} {m : MethodId} {args : Array Value} {below : List Frame} {meth : Method} {c : Code} {H : Heap} {locs : List Loc} {cells slots : Nat} {Q : State → Prop}
variable {mc ms : Nat} {free : Addr → Prop} {A0 A1 : Nat → Prop} {H0 : Heap} {a : Array Value} {pc : Nat} {ls : Array Slot} {st0 rest : List Value}
theorem vx_callFq {S SX : Type} {post : Option Nat → S → Prop} {px : SX → Prop} {B : S → State → Prop} {BX : String → SX → State → Prop} {AX : Nat → Prop} (hr : vx_Run5 p l e R s m args below meth c H locs cells slots mc ms (F0 m pc ls st0) rest (va_Qq post B A1 a) (vx_X px BX AX) free) (hS : va_S A0 H0 H locs) (hA : ∀ q, q < H.size → A1 q → A0 q) (hf : ∀ q, free q → A0 q) (hAX : ∀ q, q < H.size → AX q → A0 q)
    (kx : ∀ (E : String) (ce : Cell) (q9 : Addr) (u : SX) (t : State) (H1 : Heap) (locs1 : List Loc), t.heap = H1 → s.vm.Alike t.vm → px u → BX E u t → H.size ≤ H1.size → (∀ q : Nat, q < H.size → ¬ AX q → H1[q]? = H[q]?) → va_S A0 H0 H1 locs1 → H1[q9]? = some ce → ce.vm = .none → s.vm.findClass E = some ce.cls → vx_W p l e R s m args below meth c H1 locs1 (cells + mc) (slots + ms) Q (F0 m pc ls rest) q9)
    (kk : ∀ (r : Option Nat) (u : S) (t : State) (H1 : Heap) (locs1 : List Loc), t.heap = H1 → s.vm.Alike t.vm → post r u → B u t → H.size ≤ H1.size → (∀ q : Nat, q < H.size → ¬ A1 q → H1[q]? = H[q]?) → va_S A0 H0 H1 locs1 → W p l e R s m args below meth c H1 locs1 (cells + mc) (slots + ms) Q (F0 m (pc + 5) ls (va_rf r :: rest))) : W p l e R s m args below meth c H locs cells slots Q (F0 m pc ls st0) := by
  intro T hT X
  rcases hr T hT X with ⟨v, st₀, t, T', L, h0, X', hL, e1, e2, ⟨⟨r, u, hv, hp, hb⟩, hF⟩, st⟩ | ⟨q, st₀, t, T', L, E, ce, h0, X', hL, e1, e2, ⟨u, hp, hb, hF⟩, hce, hcv, hcl, st⟩
  · cases hv
    obtain ⟨k1, k2, k3⟩ := vx_keep h0 e1 hS hA hf hL hF
    obtain ⟨t2, a1, b1⟩ := kk r u t T'.heap (locs ++ L) e1.symm (by rw [← e2]; exact X'.warmed.alike) hp hb k1 k2 k3 T' rfl X'
    exact ⟨t2, st t2 a1, b1⟩
  · obtain ⟨k1, k2, k3⟩ := vx_keep h0 e1 hS hAX hf hL hF
    obtain ⟨t2, a1, b1⟩ := kx E ce q u t T'.heap (locs ++ L) e1.symm (by rw [← e2]; exact X'.warmed.alike) hp hb k1 k2 k3 (by rw [e1]; exact hce) hcv hcl T' rfl X'
    exact ⟨t2, st.trans a1, b1⟩
end
/-! ===== END ===== -/
/-! ===== BEGIN .. by an interface, a constant ===== -/
section
variable {p : Program} {l : Launch} {e : Env} {R : Room} {s : State} {m : MethodId} {args : Array Value} {below : List Frame} {meth : Method} {c : Code} {H : Heap} {locs : List Loc} {cells slots : Nat} {Q : State → Prop}
variable {mc ms : Nat} {free : Addr → Prop} {A0 A1 : Nat → Prop} {H0 : Heap} {a : Array Value} {pc : Nat} {ls : Array Slot} {st0 rest : List Value}
theorem vx_callFe {ad : Nat → Nat} {S SX : Type} {post : Option Nat → S → Prop} {px : SX → Prop} {B : S → State → Prop} {BX : String → SX → State → Prop} {AX : Nat → Prop} (hr : vx_Run5 p l e R s m args below meth c H locs cells slots mc ms (F0 m pc ls st0) rest (va_Qe ad post B A1 a) (vx_X px BX AX) free) (hS : va_S A0 H0 H locs) (hA : ∀ q, q < H.size → A1 q → A0 q) (hf : ∀ q, free q → A0 q) (hAX : ∀ q, q < H.size → AX q → A0 q)
    (kx : ∀ (E : String) (ce : Cell) (q9 : Addr) (u : SX) (t : State) (H1 : Heap) (locs1 : List Loc), t.heap = H1 → s.vm.Alike t.vm → px u → BX E u t → H.size ≤ H1.size → (∀ q : Nat, q < H.size → ¬ AX q → H1[q]? = H[q]?) → va_S A0 H0 H1 locs1 → H1[q9]? = some ce → ce.vm = .none → s.vm.findClass E = some ce.cls → vx_W p l e R s m args below meth c H1 locs1 (cells + mc) (slots + ms) Q (F0 m pc ls rest) q9)
    (kk : ∀ (r : Option Nat) (u : S) (t : State) (H1 : Heap) (locs1 : List Loc), t.heap = H1 → s.vm.Alike t.vm → post r u → B u t → H.size ≤ H1.size → (∀ q : Nat, q < H.size → ¬ A1 q → H1[q]? = H[q]?) → va_S A0 H0 H1 locs1 → W p l e R s m args below meth c H1 locs1 (cells + mc) (slots + ms) Q (F0 m (pc + 5) ls (va_re ad r :: rest))) : W p l e R s m args below meth c H locs cells slots Q (F0 m pc ls st0) := by
  intro T hT X
  rcases hr T hT X with ⟨v, st₀, t, T', L, h0, X', hL, e1, e2, ⟨⟨r, u, hv, hp, hb⟩, hF⟩, st⟩ | ⟨q, st₀, t, T', L, E, ce, h0, X', hL, e1, e2, ⟨u, hp, hb, hF⟩, hce, hcv, hcl, st⟩
  · cases hv
    obtain ⟨k1, k2, k3⟩ := vx_keep h0 e1 hS hA hf hL hF
    obtain ⟨t2, a1, b1⟩ := kk r u t T'.heap (locs ++ L) e1.symm (by rw [← e2]; exact X'.warmed.alike) hp hb k1 k2 k3 T' rfl X'
    exact ⟨t2, st t2 a1, b1⟩
  · obtain ⟨k1, k2, k3⟩ := vx_keep h0 e1 hS hAX hf hL hF
    obtain ⟨t2, a1, b1⟩ := kx E ce q u t T'.heap (locs ++ L) e1.symm (by rw [← e2]; exact X'.warmed.alike) hp hb k1 k2 k3 (by rw [e1]; exact hce) hcv hcl T' rfl X'
    exact ⟨t2, st.trans a1, b1⟩
end
/-! ===== END ===== -/
/-! ===== BEGIN what the machine throws by itself: null at a field, at athrow ===== -/
section VXM2
variable {p : Program} {l : Launch} {e : Env} {R : Room} {s : State} {m : MethodId} {args : Array Value} {below : List Frame} {meth : Method} {c : Code} {H : Heap} {locs : List Loc} {cells slots : Nat}
variable {Q : State → Prop} {cc : ByteArray} {pc : Nat} {ls : Array Slot} {rest : List Value}
theorem vx_getfN {D cl tys} {own ref C : String} {T : u_T} {N ci index : Nat} {Ts : List Cond} (hexec : p.tables.exec = Jvm.exec) (hb : c.code = cc) (hts : ∀ w ∈ Ts, w.before args s = true) (hin : ∀ w ∈ u_ws C T N, w ∈ Ts) (hown : s.vm.findClass own = some m.cls) (hK : va_K D cl tys s) (hc : cl[ci]? = some (C, T, N)) (k : Nat) (hk : k < N) (hlink : (Cond.fieldLink own index ref (T k).2.1 (T k).2.2.1).before args s = true) (hsame : ∀ x, s.fieldFound? (T k).1 (T k).2.1 (T k).2.2.1 = some x → s.fieldFound? ref (T k).2.1 (T k).2.2.1 = some x) (hdg : decode cc pc = .ok (.getfield index, 3)) (kk : vx_NoteN p l e R s m args below meth c H locs cells slots Q (F0 m pc ls rest)) : W p l e R s m args below meth c H locs cells slots Q (F0 m pc ls (.null :: rest)) := by
  obtain ⟨hS, hfc, kC, hkC, -⟩ := hK.1 ci _ hc
  obtain ⟨cf, kf, fi, f, hi, -⟩ := hS k hk
  intro U hU X
  obtain ⟨vm', X1, st1⟩ := X.getfieldNull hexec hown hlink (hsame _ hi) (u_facts hfc hkC (u_lays hts hin hk) hi).1 (g := F0 m pc ls (.null :: rest)) rfl (rest := rest) rfl (by rw [hb]; exact hdg)
  obtain ⟨t, st, q⟩ := kk (U.setVm vm') hU X1
  exact ⟨t, st1 t st, q⟩
theorem vx_getfNN {D cl tys} {own ref C host : String} {T : u_T} {N ci index : Nat} {Ts : List Cond} (hexec : p.tables.exec = Jvm.exec) (hb : c.code = cc) (hts : ∀ w ∈ Ts, w.before args s = true) (hin : ∀ w ∈ u_ws C T N, w ∈ Ts) (hown : s.vm.findClass own = some m.cls) (hK : va_K D cl tys s) (hc : cl[ci]? = some (C, T, N)) (k : Nat) (hk : k < N) (hlink : (Cond.fieldLinkNest own index ref (T k).2.1 (T k).2.2.1 host).before args s = true) (hsame : ∀ x, s.fieldFound? (T k).1 (T k).2.1 (T k).2.2.1 = some x → s.fieldFound? ref (T k).2.1 (T k).2.2.1 = some x) (hdg : decode cc pc = .ok (.getfield index, 3)) (kk : vx_NoteN p l e R s m args below meth c H locs cells slots Q (F0 m pc ls rest)) : W p l e R s m args below meth c H locs cells slots Q (F0 m pc ls (.null :: rest)) := by
  obtain ⟨hS, hfc, kC, hkC, -⟩ := hK.1 ci _ hc
  obtain ⟨cf, kf, fi, f, hi, -⟩ := hS k hk
  intro U hU X
  obtain ⟨vm', X1, st1⟩ := X.getfieldNullNest hexec hown hlink (hsame _ hi) (u_facts hfc hkC (u_lays hts hin hk) hi).1 (g := F0 m pc ls (.null :: rest)) rfl (rest := rest) rfl (by rw [hb]; exact hdg)
  obtain ⟨t, st, q⟩ := kk (U.setVm vm') hU X1
  exact ⟨t, st1 t st, q⟩
theorem vx_putfN {D cl tys} {own ref C : String} {T : u_T} {N ci index : Nat} {Ts : List Cond} (hexec : p.tables.exec = Jvm.exec) (hb : c.code = cc) (hts : ∀ w ∈ Ts, w.before args s = true) (hin : ∀ w ∈ u_ws C T N, w ∈ Ts) (hown : s.vm.findClass own = some m.cls) (hK : va_K D cl tys s) (hc : cl[ci]? = some (C, T, N)) (k : Nat) (hk : k < N) (hlink : (Cond.fieldLink own index ref (T k).2.1 (T k).2.2.1).before args s = true) (hsame : ∀ x, s.fieldFound? (T k).1 (T k).2.1 (T k).2.2.1 = some x → s.fieldFound? ref (T k).2.1 (T k).2.2.1 = some x) (hfin : (T k).2.2.2 = false) {v : Value} (hdg : decode cc pc = .ok (.putfield index, 3)) (kk : vx_NoteN p l e R s m args below meth c H locs cells slots Q (F0 m pc ls rest)) : W p l e R s m args below meth c H locs cells slots Q (F0 m pc ls (v :: .null :: rest)) := by
  obtain ⟨hS, hfc, kC, hkC, -⟩ := hK.1 ci _ hc
  obtain ⟨cf, kf, fi, f, hi, -⟩ := hS k hk
  have hlay := hts _ (hin _ (u_in_lay hk))
  unfold u_lay at hlay
  rw [if_neg (by rw [hfin]; decide)] at hlay
  obtain ⟨c9, k9, cf9, kf9, fi9, f9, -, -, hi9, hst9, hnf9, -⟩ := Cond.lays_spec hlay
  cases hi.symm.trans hi9
  intro U hU X
  obtain ⟨vm', X1, st1⟩ := X.putfieldNull hexec hown hlink (hsame _ hi) hst9 hnf9 (g := F0 m pc ls (v :: .null :: rest)) rfl (v := v) (rest := rest) rfl (by rw [hb]; exact hdg)
  obtain ⟨t, st, q⟩ := kk (U.setVm vm') hU X1
  exact ⟨t, st1 t st, q⟩
theorem vx_putfNN {D cl tys} {own ref C host : String} {T : u_T} {N ci index : Nat} {Ts : List Cond} (hexec : p.tables.exec = Jvm.exec) (hb : c.code = cc) (hts : ∀ w ∈ Ts, w.before args s = true) (hin : ∀ w ∈ u_ws C T N, w ∈ Ts) (hown : s.vm.findClass own = some m.cls) (hK : va_K D cl tys s) (hc : cl[ci]? = some (C, T, N)) (k : Nat) (hk : k < N) (hlink : (Cond.fieldLinkNest own index ref (T k).2.1 (T k).2.2.1 host).before args s = true) (hsame : ∀ x, s.fieldFound? (T k).1 (T k).2.1 (T k).2.2.1 = some x → s.fieldFound? ref (T k).2.1 (T k).2.2.1 = some x) (hfin : (T k).2.2.2 = false) {v : Value} (hdg : decode cc pc = .ok (.putfield index, 3)) (kk : vx_NoteN p l e R s m args below meth c H locs cells slots Q (F0 m pc ls rest)) : W p l e R s m args below meth c H locs cells slots Q (F0 m pc ls (v :: .null :: rest)) := by
  obtain ⟨hS, hfc, kC, hkC, -⟩ := hK.1 ci _ hc
  obtain ⟨cf, kf, fi, f, hi, -⟩ := hS k hk
  have hlay := hts _ (hin _ (u_in_lay hk))
  unfold u_lay at hlay
  rw [if_neg (by rw [hfin]; decide)] at hlay
  obtain ⟨c9, k9, cf9, kf9, fi9, f9, -, -, hi9, hst9, hnf9, -⟩ := Cond.lays_spec hlay
  cases hi.symm.trans hi9
  intro U hU X
  obtain ⟨vm', X1, st1⟩ := X.putfieldNullNest hexec hown hlink (hsame _ hi) hst9 hnf9 (g := F0 m pc ls (v :: .null :: rest)) rfl (v := v) (rest := rest) rfl (by rw [hb]; exact hdg)
  obtain ⟨t, st, q⟩ := kk (U.setVm vm') hU X1
  exact ⟨t, st1 t st, q⟩
theorem vx_athrowN (hexec : p.tables.exec = Jvm.exec) (hb : c.code = cc) (hdg : decode cc pc = .ok (.athrow, 1)) (k : vx_NoteN p l e R s m args below meth c H locs cells slots Q (F0 m pc ls rest)) : W p l e R s m args below meth c H locs cells slots Q (F0 m pc ls (.null :: rest)) := by
  intro T hT X
  obtain ⟨t, st, q⟩ := k T hT X
  exact ⟨t, X.athrowNull hexec (g := F0 m pc ls (.null :: rest)) rfl (rest := rest) rfl (by rw [hb]; exact hdg) t st, q⟩
end VXM2
/-! ===== END ===== -/
end
section
def RX0 : String := "CustomsDesk$Goods"
def TX0 : u_T := fun k => match k with
  | 0 => ("CustomsDesk$Goods", "heading", "I", false)
  | 1 => ("CustomsDesk$Goods", "country", "I", false)
  | 2 => ("CustomsDesk$Goods", "value", "I", false)
  | 3 => ("CustomsDesk$Goods", "proof", "I", false)
  | _ => ("CustomsDesk$Goods", "day", "I", false)
def tyX0 : Nat → FieldType := fun k => match k with
  | 0 => .int
  | 1 => .int
  | 2 => .int
  | 3 => .int
  | _ => .int
theorem nmX0 : ∀ a, a < 5 → ∀ b, b < 5 → a ≠ b → (TX0 a).2.1 ≠ (TX0 b).2.1 := by decide +kernel
theorem tyX0_ok : ∀ k, k < 5 → parseFieldDescriptor (TX0 k).2.2.1 = some (tyX0 k) := by decide +kernel
def RX1 : String := "CustomsDesk$Ledger"
def TX1 : u_T := fun k => match k with
  | 0 => ("CustomsDesk$Ledger", "totals", "LCustomsDesk$Table;", true)
  | _ => ("CustomsDesk$Ledger", "byCountry", "LCustomsDesk$Table;", true)
def tyX1 : Nat → FieldType := fun k => match k with
  | 0 => .object "CustomsDesk$Table"
  | _ => .object "CustomsDesk$Table"
theorem nmX1 : ∀ a, a < 2 → ∀ b, b < 2 → a ≠ b → (TX1 a).2.1 ≠ (TX1 b).2.1 := by decide +kernel
theorem tyX1_ok : ∀ k, k < 2 → parseFieldDescriptor (TX1 k).2.2.1 = some (tyX1 k) := by decide +kernel
def RX2 : String := "CustomsDesk$Office"
def TX2 : u_T := fun k => match k with
  | 0 => ("CustomsDesk$Office", "tariff", "LCustomsDesk$Tariff;", true)
  | 1 => ("CustomsDesk$Office", "ledger", "LCustomsDesk$Ledger;", true)
  | 2 => ("CustomsDesk$Office", "quotas", "LCustomsDesk$Table;", true)
  | 3 => ("CustomsDesk$Office", "declarations", "LCustomsDesk$Table;", true)
  | _ => ("CustomsDesk$Office", "goods", "LCustomsDesk$Goods;", true)
def tyX2 : Nat → FieldType := fun k => match k with
  | 0 => .object "CustomsDesk$Tariff"
  | 1 => .object "CustomsDesk$Ledger"
  | 2 => .object "CustomsDesk$Table"
  | 3 => .object "CustomsDesk$Table"
  | _ => .object "CustomsDesk$Goods"
theorem nmX2 : ∀ a, a < 5 → ∀ b, b < 5 → a ≠ b → (TX2 a).2.1 ≠ (TX2 b).2.1 := by decide +kernel
theorem tyX2_ok : ∀ k, k < 5 → parseFieldDescriptor (TX2 k).2.2.1 = some (tyX2 k) := by decide +kernel
def RX3 : String := "CustomsDesk$Parts"
def TX3 : u_T := fun k => match k with
  | _ => ("CustomsDesk$Parts", "rows", "LCustomsDesk$Table;", true)
def tyX3 : Nat → FieldType := fun k => match k with
  | _ => .object "CustomsDesk$Table"
theorem nmX3 : ∀ a, a < 1 → ∀ b, b < 1 → a ≠ b → (TX3 a).2.1 ≠ (TX3 b).2.1 := by decide +kernel
theorem tyX3_ok : ∀ k, k < 1 → parseFieldDescriptor (TX3 k).2.2.1 = some (tyX3 k) := by decide +kernel
def RX4 : String := "CustomsDesk$Table"
def TX4 : u_T := fun k => match k with
  | 0 => ("CustomsDesk$Table", "most", "I", true)
  | 1 => ("CustomsDesk$Table", "width", "I", true)
  | 2 => ("CustomsDesk$Table", "cells", "[I", true)
  | _ => ("CustomsDesk$Table", "copies", "[I", true)
def tyX4 : Nat → FieldType := fun k => match k with
  | 0 => .int
  | 1 => .int
  | 2 => .array .int
  | _ => .array .int
theorem nmX4 : ∀ a, a < 4 → ∀ b, b < 4 → a ≠ b → (TX4 a).2.1 ≠ (TX4 b).2.1 := by decide +kernel
theorem tyX4_ok : ∀ k, k < 4 → parseFieldDescriptor (TX4 k).2.2.1 = some (tyX4 k) := by decide +kernel
def RX5 : String := "CustomsDesk$Tariff"
def TX5 : u_T := fun k => match k with
  | 0 => ("CustomsDesk$Tariff", "headings", "LCustomsDesk$Table;", true)
  | 1 => ("CustomsDesk$Tariff", "preferences", "LCustomsDesk$Table;", true)
  | 2 => ("CustomsDesk$Tariff", "suspensions", "LCustomsDesk$Table;", true)
  | _ => ("CustomsDesk$Tariff", "settings", "LCustomsDesk$Table;", true)
def tyX5 : Nat → FieldType := fun k => match k with
  | 0 => .object "CustomsDesk$Table"
  | 1 => .object "CustomsDesk$Table"
  | 2 => .object "CustomsDesk$Table"
  | _ => .object "CustomsDesk$Table"
theorem nmX5 : ∀ a, a < 4 → ∀ b, b < 4 → a ≠ b → (TX5 a).2.1 ≠ (TX5 b).2.1 := by decide +kernel
theorem tyX5_ok : ∀ k, k < 4 → parseFieldDescriptor (TX5 k).2.2.1 = some (tyX5 k) := by decide +kernel
def RX6 : String := "CustomsDesk$Text"
def TX6 : u_T := fun k => match k with
  | 0 => ("CustomsDesk$Text", "characters", "[C", true)
  | 1 => ("CustomsDesk$Text", "entries", "LCustomsDesk$Table;", true)
  | 2 => ("CustomsDesk$Text", "length", "I", false)
  | 3 => ("CustomsDesk$Text", "at", "I", false)
  | _ => ("CustomsDesk$Text", "lastError", "I", false)
def tyX6 : Nat → FieldType := fun k => match k with
  | 0 => .array .char
  | 1 => .object "CustomsDesk$Table"
  | 2 => .int
  | 3 => .int
  | _ => .int
theorem nmX6 : ∀ a, a < 5 → ∀ b, b < 5 → a ≠ b → (TX6 a).2.1 ≠ (TX6 b).2.1 := by decide +kernel
theorem tyX6_ok : ∀ k, k < 5 → parseFieldDescriptor (TX6 k).2.2.1 = some (tyX6 k) := by decide +kernel
def RX7 : String := "CustomsDesk"
def TX7 : u_T := fun k => match k with
  | 0 => ("CustomsDesk", "office", "LCustomsDesk$Office;", true)
  | 1 => ("CustomsDesk", "tariff", "LCustomsDesk$Tariff;", true)
  | 2 => ("CustomsDesk", "ledger", "LCustomsDesk$Ledger;", true)
  | 3 => ("CustomsDesk", "parts", "LCustomsDesk$Parts;", true)
  | 4 => ("CustomsDesk", "entryParts", "LCustomsDesk$Parts;", true)
  | 5 => ("CustomsDesk", "text", "LCustomsDesk$Text;", true)
  | 6 => ("CustomsDesk", "nextSlot", "I", false)
  | 7 => ("CustomsDesk", "undoable", "I", false)
  | 8 => ("CustomsDesk", "hasSaved", "Z", false)
  | _ => ("CustomsDesk", "lastRefusal", "I", false)
def tyX7 : Nat → FieldType := fun k => match k with
  | 0 => .object "CustomsDesk$Office"
  | 1 => .object "CustomsDesk$Tariff"
  | 2 => .object "CustomsDesk$Ledger"
  | 3 => .object "CustomsDesk$Parts"
  | 4 => .object "CustomsDesk$Parts"
  | 5 => .object "CustomsDesk$Text"
  | 6 => .int
  | 7 => .int
  | 8 => .boolean
  | _ => .int
theorem nmX7 : ∀ a, a < 10 → ∀ b, b < 10 → a ≠ b → (TX7 a).2.1 ≠ (TX7 b).2.1 := by decide +kernel
theorem tyX7_ok : ∀ k, k < 10 → parseFieldDescriptor (TX7 k).2.2.1 = some (tyX7 k) := by decide +kernel
def RX8 : String := "CustomsDeskModel"
def TX8 : u_T := fun k => match k with
  | 0 => ("CustomsDeskModel", "thrown", "I", false)
  | 1 => ("CustomsDeskModel", "g", "[I", true)
  | 2 => ("CustomsDeskModel", "history", "[I", true)
  | 3 => ("CustomsDeskModel", "steps", "I", false)
  | 4 => ("CustomsDeskModel", "keptRow", "[I", true)
  | 5 => ("CustomsDeskModel", "hasKept", "Z", false)
  | 6 => ("CustomsDeskModel", "before", "[I", true)
  | 7 => ("CustomsDeskModel", "isQuiet", "Z", false)
  | 8 => ("CustomsDeskModel", "reason", "I", false)
  | 9 => ("CustomsDeskModel", "tape", "[C", true)
  | 10 => ("CustomsDeskModel", "taped", "I", false)
  | 11 => ("CustomsDeskModel", "wrongAt", "I", false)
  | 12 => ("CustomsDeskModel", "gets", "[I", true)
  | 13 => ("CustomsDeskModel", "place", "I", false)
  | 14 => ("CustomsDeskModel", "isWrong", "Z", false)
  | _ => ("CustomsDeskModel", "toldRow", "[I", true)
def tyX8 : Nat → FieldType := fun k => match k with
  | 0 => .int
  | 1 => .array .int
  | 2 => .array .int
  | 3 => .int
  | 4 => .array .int
  | 5 => .boolean
  | 6 => .array .int
  | 7 => .boolean
  | 8 => .int
  | 9 => .array .char
  | 10 => .int
  | 11 => .int
  | 12 => .array .int
  | 13 => .int
  | 14 => .boolean
  | _ => .array .int
theorem nmX8 : ∀ a, a < 16 → ∀ b, b < 16 → a ≠ b → (TX8 a).2.1 ≠ (TX8 b).2.1 := by decide +kernel
theorem tyX8_ok : ∀ k, k < 16 → parseFieldDescriptor (TX8 k).2.2.1 = some (tyX8 k) := by decide +kernel
def RL : String := "CustomsDeskLaw"
end
section
/-! A SMALL MACHINE of our own: its cells are a list, its addresses are places in that list (0 is the script, k + 1 is cell k); one theorem says that the real machine does what it does. -/
abbrev mg_C : Type := (Nat × vp_A) ⊕ (Nat × List Value)
abbrev mg_S : Type := List mg_C × Nat × Nat
abbrev mg_E : Type := Nat × Instr × Nat × List Nat
abbrev mg_L : Type := List (Option Value)
abbrev mg_R : Type := (Option Value ⊕ Nat) × mg_S
abbrev mg_Sc : Type := Nat × (Nat → Int32)
/-- what the classes are: name, fields, how many -/
abbrev mg_cl : List vw_C := [(RX0, TX0, 5), (RX1, TX1, 2), (RX2, TX2, 5), (RX3, TX3, 1), (RX4, TX4, 4), (RX5, TX5, 4), (RX6, TX6, 5), (RX7, TX7, 10), (RX8, TX8, 16)]
def mg_ty (ci : Nat) : Nat → FieldType := match ci with
  | 0 => tyX0 | 1 => tyX1 | 2 => tyX2 | 3 => tyX3 | 4 => tyX4 | 5 => tyX5 | 6 => tyX6 | 7 => tyX7 | _ => tyX8
end
section
abbrev mg_I : Type := MethodName × ByteArray × Nat × Option FieldType × List (Nat × Nat × Nat × Nat) × List Nat
/-- CustomsDesk.<init>()V -/
def mk_0 : List mg_E := [(0, .aload_n 0, 1, []), (1, .invokespecial 3, 3, [2, 108]), (4, .aload_n 0, 1, []), (5, .new 9, 3, [0, 2, 111]), (8, .dup, 1, []), (9, .invokespecial 11, 3, [1, 151, 0, 113]), (12, .putfield 12, 3, [7, 0, 0, 278]), (15, .aload_n 0, 1, []), (16, .aload_n 0, 1, []), (17, .getfield 12, 3, [7, 0, 0, 278]), (20, .getfield 16, 3, [2, 0, 1, 217]), (23, .putfield 20, 3, [7, 1, 0, 279]), (26, .aload_n 0, 1, []), (27, .aload_n 0, 1, []), (28, .getfield 12, 3, [7, 0, 0, 278]), (31, .getfield 21, 3, [2, 1, 1, 219]), (34, .putfield 25, 3, [7, 2, 0, 280]), (37, .aload_n 0, 1, []), (38, .new 26, 3, [0, 3, 237]), (41, .dup, 1, []), (42, .bipush 9, 2, []), (44, .invokespecial 28, 3, [0, 175, 1, 239]), (47, .putfield 31, 3, [7, 3, 0, 281]), (50, .aload_n 0, 1, []), (51, .new 26, 3, [0, 3, 237]), (54, .dup, 1, []), (55, .iconst 0, 1, []), (56, .invokespecial 28, 3, [0, 175, 1, 239]), (59, .putfield 35, 3, [7, 4, 0, 282]), (62, .aload_n 0, 1, []), (63, .new 38, 3, [0, 6, 250]), (66, .dup, 1, []), (67, .invokespecial 40, 3, [1, 211, 0, 252]), (70, .putfield 41, 3, [7, 5, 0, 283]), (73, .aload_n 0, 1, []), (74, .iconst 0, 1, []), (75, .putfield 45, 3, [7, 6, 0, 284]), (78, .aload_n 0, 1, []), (79, .iconst 0, 1, []), (80, .putfield 49, 3, [7, 7, 0, 285]), (83, .aload_n 0, 1, []), (84, .iconst 0, 1, []), (85, .putfield 52, 3, [7, 8, 0, 286]), (88, .aload_n 0, 1, []), (89, .iconst 0, 1, []), (90, .putfield 56, 3, [7, 9, 0, 287]), (93, .return_, 1, [])]
/-- CustomsDesk.heading(II)I -/
def mk_1 : List mg_E := [(0, .iload_n 1, 1, []), (1, .iconst (-1), 1, []), (2, .if_icmp .eq 27, 3, [29]), (5, .aload_n 0, 1, []), (6, .getfield 20, 3, [7, 1, 0, 279]), (9, .getfield 59, 3, [5, 0, 1, 151]), (12, .iload_n 1, 1, []), (13, .invokevirtual 65, 3, [182, 1, 459]), (16, .ifCond .ne 13, 3, [29]), (19, .new 71, 3, [1, 0, 73, 75, 0, 464, 473]), (29, .iload_n 2, 1, []), (30, .iconst 1, 1, []), (31, .bipush 9, 2, []), (33, .invokestatic 78, 3, [0, 54, 3, 477]), (36, .ifCond .eq 15, 3, [51]), (39, .aload_n 0, 1, []), (40, .getfield 20, 3, [7, 1, 0, 279]), (43, .iload_n 1, 1, []), (44, .iload_n 2, 1, []), (45, .invokevirtual 82, 3, [196, 2, 480]), (48, .ifCond .eq 13, 3, [61]), (51, .new 86, 3, [1, 1, 88, 90, 0, 489, 498]), (61, .aload_n 0, 1, []), (62, .getfield 20, 3, [7, 1, 0, 279]), (65, .getfield 59, 3, [5, 0, 1, 151]), (68, .invokevirtual 91, 3, [183, 0, 505]), (71, .ifCond .ne 15, 3, [86]), (74, .aload_n 0, 1, []), (75, .getfield 20, 3, [7, 1, 0, 279]), (78, .iload_n 1, 1, []), (79, .invokevirtual 95, 3, [197, 1, 509]), (82, .iconst 4, 1, []), (83, .if_icmp .lt 13, 3, [96]), (86, .new 99, 3, [1, 2, 101, 103, 0, 513, 522]), (96, .aload_n 0, 1, []), (97, .invokevirtual 104, 3, [38, 0, 313]), (100, .aload_n 0, 1, []), (101, .getfield 20, 3, [7, 1, 0, 279]), (104, .getfield 59, 3, [5, 0, 1, 151]), (107, .invokevirtual 107, 3, [187, 0, 529]), (110, .istore_n 3, 1, []), (111, .aload_n 0, 1, []), (112, .getfield 20, 3, [7, 1, 0, 279]), (115, .getfield 59, 3, [5, 0, 1, 151]), (118, .iload_n 3, 1, []), (119, .iconst 0, 1, []), (120, .iload_n 1, 1, []), (121, .invokevirtual 111, 3, [185, 3, 534]), (124, .aload_n 0, 1, []), (125, .getfield 20, 3, [7, 1, 0, 279]), (128, .getfield 59, 3, [5, 0, 1, 151]), (131, .iload_n 3, 1, []), (132, .iconst 1, 1, []), (133, .iload_n 2, 1, []), (134, .invokevirtual 111, 3, [185, 3, 534]), (137, .aload_n 0, 1, []), (138, .getfield 20, 3, [7, 1, 0, 279]), (141, .getfield 59, 3, [5, 0, 1, 151]), (144, .iload_n 3, 1, []), (145, .iconst 2, 1, []), (146, .iconst (-1), 1, []), (147, .invokevirtual 111, 3, [185, 3, 534]), (150, .iload_n 3, 1, []), (151, .ireturn, 1, [])]
/-- CustomsDesk.rate(II)I -/
def mk_2 : List mg_E := [(0, .aload_n 0, 1, []), (1, .iload_n 1, 1, []), (2, .invokevirtual 115, 3, [41, 1, 542]), (5, .iload_n 2, 1, []), (6, .iconst (-1), 1, []), (7, .sipush 1000, 3, []), (10, .invokestatic 78, 3, [0, 54, 3, 477]), (13, .ifCond .ne 13, 3, [26]), (16, .new 86, 3, [1, 1, 118, 90, 0, 489, 547]), (26, .aload_n 0, 1, []), (27, .invokevirtual 104, 3, [38, 0, 313]), (30, .aload_n 0, 1, []), (31, .getfield 20, 3, [7, 1, 0, 279]), (34, .getfield 59, 3, [5, 0, 1, 151]), (37, .iload_n 1, 1, []), (38, .iconst 2, 1, []), (39, .invokevirtual 120, 3, [184, 2, 548]), (42, .istore_n 3, 1, []), (43, .aload_n 0, 1, []), (44, .getfield 20, 3, [7, 1, 0, 279]), (47, .getfield 59, 3, [5, 0, 1, 151]), (50, .iload_n 1, 1, []), (51, .iconst 2, 1, []), (52, .iload_n 2, 1, []), (53, .invokevirtual 111, 3, [185, 3, 534]), (56, .iload_n 3, 1, []), (57, .ireturn, 1, [])]
/-- CustomsDesk.told(II)I -/
def mk_3 : List mg_E := [(0, .aload_n 0, 1, []), (1, .iload_n 1, 1, []), (2, .invokevirtual 115, 3, [41, 1, 542]), (5, .iload_n 2, 1, []), (6, .tableswitch 91 0 6 #[42, 42, 42, 55, 64, 73, 82], 42, [97, 48, 48, 48, 61, 70, 79, 88]), (48, .aload_n 0, 1, []), (49, .getfield 20, 3, [7, 1, 0, 279]), (52, .getfield 59, 3, [5, 0, 1, 151]), (55, .iload_n 1, 1, []), (56, .iload_n 2, 1, []), (57, .invokevirtual 120, 3, [184, 2, 548]), (60, .ireturn, 1, []), (61, .aload_n 0, 1, []), (62, .getfield 20, 3, [7, 1, 0, 279]), (65, .iload_n 1, 1, []), (66, .invokevirtual 124, 3, [202, 1, 556]), (69, .ireturn, 1, []), (70, .aload_n 0, 1, []), (71, .getfield 20, 3, [7, 1, 0, 279]), (74, .iload_n 1, 1, []), (75, .invokevirtual 127, 3, [200, 1, 560]), (78, .ireturn, 1, []), (79, .aload_n 0, 1, []), (80, .getfield 20, 3, [7, 1, 0, 279]), (83, .iload_n 1, 1, []), (84, .invokevirtual 95, 3, [197, 1, 509]), (87, .ireturn, 1, []), (88, .aload_n 0, 1, []), (89, .getfield 20, 3, [7, 1, 0, 279]), (92, .iload_n 1, 1, []), (93, .invokevirtual 130, 3, [198, 1, 564]), (96, .ireturn, 1, []), (97, .new 86, 3, [1, 1, 133, 90, 0, 489, 568])]
/-- CustomsDesk.find(I)I -/
def mk_4 : List mg_E := [(0, .aload_n 0, 1, []), (1, .getfield 20, 3, [7, 1, 0, 279]), (4, .iload_n 1, 1, []), (5, .invokevirtual 135, 3, [199, 1, 577]), (8, .istore_n 2, 1, []), (9, .iload_n 2, 1, []), (10, .iconst (-1), 1, []), (11, .if_icmp .ne 13, 3, [24]), (14, .new 138, 3, [1, 3, 140, 142, 0, 582, 591]), (24, .iload_n 2, 1, []), (25, .ireturn, 1, [])]
/-- CustomsDesk.prefer(IIII)I -/
def mk_5 : List mg_E := [(0, .aload_n 0, 1, []), (1, .iload_n 1, 1, []), (2, .invokevirtual 115, 3, [41, 1, 542]), (5, .aload_n 0, 1, []), (6, .iload_n 2, 1, []), (7, .invokevirtual 143, 3, [42, 1, 605]), (10, .iload_n 3, 1, []), (11, .iconst 0, 1, []), (12, .sipush 1000, 3, []), (15, .invokestatic 78, 3, [0, 54, 3, 477]), (18, .ifCond .eq 13, 3, [31]), (21, .iload 4, 2, []), (23, .iconst 0, 1, []), (24, .iconst 2, 1, []), (25, .invokestatic 78, 3, [0, 54, 3, 477]), (28, .ifCond .ne 13, 3, [41]), (31, .new 86, 3, [1, 1, 146, 90, 0, 489, 613]), (41, .aload_n 0, 1, []), (42, .getfield 20, 3, [7, 1, 0, 279]), (45, .getfield 148, 3, [5, 1, 1, 153]), (48, .invokevirtual 91, 3, [183, 0, 505]), (51, .ifCond .eq 13, 3, [64]), (54, .new 99, 3, [1, 2, 151, 103, 0, 513, 614]), (64, .aload_n 0, 1, []), (65, .invokevirtual 104, 3, [38, 0, 313]), (68, .aload_n 0, 1, []), (69, .getfield 20, 3, [7, 1, 0, 279]), (72, .getfield 148, 3, [5, 1, 1, 153]), (75, .invokevirtual 107, 3, [187, 0, 529]), (78, .istore 5, 2, []), (80, .aload_n 0, 1, []), (81, .getfield 20, 3, [7, 1, 0, 279]), (84, .getfield 148, 3, [5, 1, 1, 153]), (87, .iload 5, 2, []), (89, .iconst 0, 1, []), (90, .iload_n 1, 1, []), (91, .invokevirtual 111, 3, [185, 3, 534]), (94, .aload_n 0, 1, []), (95, .getfield 20, 3, [7, 1, 0, 279]), (98, .getfield 148, 3, [5, 1, 1, 153]), (101, .iload 5, 2, []), (103, .iconst 1, 1, []), (104, .iload_n 2, 1, []), (105, .invokevirtual 111, 3, [185, 3, 534]), (108, .aload_n 0, 1, []), (109, .getfield 20, 3, [7, 1, 0, 279]), (112, .getfield 148, 3, [5, 1, 1, 153]), (115, .iload 5, 2, []), (117, .iconst 2, 1, []), (118, .iload_n 3, 1, []), (119, .invokevirtual 111, 3, [185, 3, 534]), (122, .aload_n 0, 1, []), (123, .getfield 20, 3, [7, 1, 0, 279]), (126, .getfield 148, 3, [5, 1, 1, 153]), (129, .iload 5, 2, []), (131, .iconst 3, 1, []), (132, .iload 4, 2, []), (134, .invokevirtual 111, 3, [185, 3, 534]), (137, .iload 5, 2, []), (139, .ireturn, 1, [])]
/-- CustomsDesk.drop(I)I -/
def mk_6 : List mg_E := [(0, .aload_n 0, 1, []), (1, .getfield 20, 3, [7, 1, 0, 279]), (4, .getfield 148, 3, [5, 1, 1, 153]), (7, .iload_n 1, 1, []), (8, .invokevirtual 65, 3, [182, 1, 459]), (11, .ifCond .ne 13, 3, [24]), (14, .new 71, 3, [1, 0, 153, 75, 0, 464, 622]), (24, .aload_n 0, 1, []), (25, .invokevirtual 104, 3, [38, 0, 313]), (28, .aload_n 0, 1, []), (29, .getfield 20, 3, [7, 1, 0, 279]), (32, .getfield 148, 3, [5, 1, 1, 153]), (35, .iload_n 1, 1, []), (36, .invokevirtual 155, 3, [188, 1, 623]), (39, .aload_n 0, 1, []), (40, .getfield 20, 3, [7, 1, 0, 279]), (43, .getfield 148, 3, [5, 1, 1, 153]), (46, .invokevirtual 158, 3, [181, 0, 350]), (49, .ireturn, 1, [])]
/-- CustomsDesk.suspend(III)I -/
def mk_7 : List mg_E := [(0, .aload_n 0, 1, []), (1, .iload_n 1, 1, []), (2, .invokevirtual 115, 3, [41, 1, 542]), (5, .iload_n 2, 1, []), (6, .iconst 0, 1, []), (7, .sipush 999, 3, []), (10, .invokestatic 78, 3, [0, 54, 3, 477]), (13, .ifCond .eq 14, 3, [27]), (16, .iload_n 3, 1, []), (17, .iload_n 2, 1, []), (18, .sipush 999, 3, []), (21, .invokestatic 78, 3, [0, 54, 3, 477]), (24, .ifCond .ne 13, 3, [37]), (27, .new 86, 3, [1, 1, 161, 90, 0, 489, 635]), (37, .aload_n 0, 1, []), (38, .getfield 20, 3, [7, 1, 0, 279]), (41, .getfield 163, 3, [5, 2, 1, 155]), (44, .invokevirtual 91, 3, [183, 0, 505]), (47, .ifCond .eq 13, 3, [60]), (50, .new 99, 3, [1, 2, 166, 103, 0, 513, 636]), (60, .aload_n 0, 1, []), (61, .invokevirtual 104, 3, [38, 0, 313]), (64, .aload_n 0, 1, []), (65, .getfield 20, 3, [7, 1, 0, 279]), (68, .getfield 163, 3, [5, 2, 1, 155]), (71, .invokevirtual 107, 3, [187, 0, 529]), (74, .istore 4, 2, []), (76, .aload_n 0, 1, []), (77, .getfield 20, 3, [7, 1, 0, 279]), (80, .getfield 163, 3, [5, 2, 1, 155]), (83, .iload 4, 2, []), (85, .iconst 0, 1, []), (86, .iload_n 1, 1, []), (87, .invokevirtual 111, 3, [185, 3, 534]), (90, .aload_n 0, 1, []), (91, .getfield 20, 3, [7, 1, 0, 279]), (94, .getfield 163, 3, [5, 2, 1, 155]), (97, .iload 4, 2, []), (99, .iconst 1, 1, []), (100, .iload_n 2, 1, []), (101, .invokevirtual 111, 3, [185, 3, 534]), (104, .aload_n 0, 1, []), (105, .getfield 20, 3, [7, 1, 0, 279]), (108, .getfield 163, 3, [5, 2, 1, 155]), (111, .iload 4, 2, []), (113, .iconst 2, 1, []), (114, .iload_n 3, 1, []), (115, .invokevirtual 111, 3, [185, 3, 534]), (118, .iload 4, 2, []), (120, .ireturn, 1, [])]
/-- CustomsDesk.quota(IIIII)I -/
def mk_8 : List mg_E := [(0, .aload_n 0, 1, []), (1, .iload_n 1, 1, []), (2, .invokevirtual 115, 3, [41, 1, 542]), (5, .iload_n 2, 1, []), (6, .iconst (-1), 1, []), (7, .if_icmp .eq 8, 3, [15]), (10, .aload_n 0, 1, []), (11, .iload_n 2, 1, []), (12, .invokevirtual 143, 3, [42, 1, 605]), (15, .aload_n 0, 1, []), (16, .getfield 25, 3, [7, 2, 0, 280]), (19, .invokevirtual 168, 3, [144, 0, 644]), (22, .istore 6, 2, []), (24, .iload_n 3, 1, []), (25, .iconst 1, 1, []), (26, .sipush 9999, 3, []), (29, .invokestatic 78, 3, [0, 54, 3, 477]), (32, .ifCond .eq 28, 3, [60]), (35, .iload 4, 2, []), (37, .iconst 0, 1, []), (38, .sipush 1000, 3, []), (41, .invokestatic 78, 3, [0, 54, 3, 477]), (44, .ifCond .eq 16, 3, [60]), (47, .iload 5, 2, []), (49, .iload 6, 2, []), (51, .sipush 999, 3, []), (54, .invokestatic 78, 3, [0, 54, 3, 477]), (57, .ifCond .ne 13, 3, [70]), (60, .new 86, 3, [1, 1, 173, 90, 0, 489, 649]), (70, .aload_n 0, 1, []), (71, .getfield 12, 3, [7, 0, 0, 278]), (74, .getfield 175, 3, [2, 2, 1, 221]), (77, .invokevirtual 91, 3, [183, 0, 505]), (80, .ifCond .eq 13, 3, [93]), (83, .new 99, 3, [1, 2, 178, 103, 0, 513, 650]), (93, .aload_n 0, 1, []), (94, .invokevirtual 104, 3, [38, 0, 313]), (97, .aload_n 0, 1, []), (98, .getfield 12, 3, [7, 0, 0, 278]), (101, .getfield 175, 3, [2, 2, 1, 221]), (104, .invokevirtual 107, 3, [187, 0, 529]), (107, .istore 7, 2, []), (109, .aload_n 0, 1, []), (110, .getfield 12, 3, [7, 0, 0, 278]), (113, .getfield 175, 3, [2, 2, 1, 221]), (116, .iload 7, 2, []), (118, .iconst 0, 1, []), (119, .iload_n 1, 1, []), (120, .invokevirtual 111, 3, [185, 3, 534]), (123, .aload_n 0, 1, []), (124, .getfield 12, 3, [7, 0, 0, 278]), (127, .getfield 175, 3, [2, 2, 1, 221]), (130, .iload 7, 2, []), (132, .iconst 1, 1, []), (133, .iload_n 2, 1, []), (134, .invokevirtual 111, 3, [185, 3, 534]), (137, .aload_n 0, 1, []), (138, .getfield 12, 3, [7, 0, 0, 278]), (141, .getfield 175, 3, [2, 2, 1, 221]), (144, .iload 7, 2, []), (146, .iconst 2, 1, []), (147, .iload_n 3, 1, []), (148, .invokevirtual 111, 3, [185, 3, 534]), (151, .aload_n 0, 1, []), (152, .getfield 12, 3, [7, 0, 0, 278]), (155, .getfield 175, 3, [2, 2, 1, 221]), (158, .iload 7, 2, []), (160, .iconst 3, 1, []), (161, .iload 4, 2, []), (163, .invokevirtual 111, 3, [185, 3, 534]), (166, .aload_n 0, 1, []), (167, .getfield 12, 3, [7, 0, 0, 278]), (170, .getfield 175, 3, [2, 2, 1, 221]), (173, .iload 7, 2, []), (175, .iconst 4, 1, []), (176, .iload 6, 2, []), (178, .invokevirtual 111, 3, [185, 3, 534]), (181, .aload_n 0, 1, []), (182, .getfield 12, 3, [7, 0, 0, 278]), (185, .getfield 175, 3, [2, 2, 1, 221]), (188, .iload 7, 2, []), (190, .iconst 5, 1, []), (191, .iload 5, 2, []), (193, .invokevirtual 111, 3, [185, 3, 534]), (196, .aload_n 0, 1, []), (197, .getfield 12, 3, [7, 0, 0, 278]), (200, .getfield 175, 3, [2, 2, 1, 221]), (203, .iload 7, 2, []), (205, .bipush 6, 2, []), (207, .iload_n 3, 1, []), (208, .invokevirtual 111, 3, [185, 3, 534]), (211, .iload 7, 2, []), (213, .ireturn, 1, [])]
/-- CustomsDesk.quotaTold(II)I -/
def mk_9 : List mg_E := [(0, .aload_n 0, 1, []), (1, .iload_n 1, 1, []), (2, .invokevirtual 180, 3, [43, 1, 658]), (5, .iload_n 2, 1, []), (6, .iconst 0, 1, []), (7, .bipush 8, 2, []), (9, .invokestatic 78, 3, [0, 54, 3, 477]), (12, .ifCond .ne 13, 3, [25]), (15, .new 86, 3, [1, 1, 183, 90, 0, 489, 663]), (25, .aload_n 0, 1, []), (26, .getfield 12, 3, [7, 0, 0, 278]), (29, .getfield 175, 3, [2, 2, 1, 221]), (32, .iload_n 1, 1, []), (33, .iload_n 2, 1, []), (34, .invokevirtual 120, 3, [184, 2, 548]), (37, .ireturn, 1, [])]
/-- CustomsDesk.set(II)I -/
def mk_10 : List mg_E := [(0, .iload_n 1, 1, []), (1, .iload_n 2, 1, []), (2, .invokestatic 185, 3, [0, 52, 2, 671]), (5, .ifCond .ne 13, 3, [18]), (8, .new 86, 3, [1, 1, 188, 90, 0, 489, 675]), (18, .aload_n 0, 1, []), (19, .invokevirtual 104, 3, [38, 0, 313]), (22, .aload_n 0, 1, []), (23, .getfield 20, 3, [7, 1, 0, 279]), (26, .iload_n 1, 1, []), (27, .invokevirtual 190, 3, [195, 1, 676]), (30, .istore_n 3, 1, []), (31, .aload_n 0, 1, []), (32, .getfield 20, 3, [7, 1, 0, 279]), (35, .getfield 193, 3, [5, 3, 1, 157]), (38, .iload_n 1, 1, []), (39, .iconst 0, 1, []), (40, .iload_n 2, 1, []), (41, .invokevirtual 111, 3, [185, 3, 534]), (44, .iload_n 3, 1, []), (45, .ireturn, 1, [])]
/-- CustomsDesk.rateOf(IIII)I -/
def mk_11 : List mg_E := [(0, .aload_n 0, 1, []), (1, .getfield 20, 3, [7, 1, 0, 279]), (4, .aload_n 0, 1, []), (5, .iload_n 1, 1, []), (6, .iload_n 2, 1, []), (7, .iload_n 3, 1, []), (8, .iload 4, 2, []), (10, .invokevirtual 196, 3, [46, 4, 687]), (13, .invokevirtual 200, 3, [203, 1, 696]), (16, .ireturn, 1, [])]
/-- CustomsDesk.comesFrom(IIII)I -/
def mk_12 : List mg_E := [(0, .aload_n 0, 1, []), (1, .iload_n 1, 1, []), (2, .iload_n 2, 1, []), (3, .iload_n 3, 1, []), (4, .iload 4, 2, []), (6, .invokevirtual 196, 3, [46, 4, 687]), (9, .astore 5, 2, []), (11, .aload_n 0, 1, []), (12, .getfield 20, 3, [7, 1, 0, 279]), (15, .aload_n 0, 1, []), (16, .getfield 20, 3, [7, 1, 0, 279]), (19, .aload 5, 2, []), (21, .invokevirtual 200, 3, [203, 1, 696]), (24, .aload 5, 2, []), (26, .invokevirtual 204, 3, [204, 2, 726]), (29, .ireturn, 1, [])]
/-- CustomsDesk.missed(IIII)I -/
def mk_13 : List mg_E := [(0, .aload_n 0, 1, []), (1, .getfield 20, 3, [7, 1, 0, 279]), (4, .aload_n 0, 1, []), (5, .iload_n 1, 1, []), (6, .iload_n 2, 1, []), (7, .iload_n 3, 1, []), (8, .iload 4, 2, []), (10, .invokevirtual 196, 3, [46, 4, 687]), (13, .invokevirtual 208, 3, [205, 1, 737]), (16, .istore 5, 2, []), (18, .iload 5, 2, []), (20, .iconst (-1), 1, []), (21, .if_icmp .ne 13, 3, [34]), (24, .new 138, 3, [1, 3, 211, 142, 0, 582, 742]), (34, .iload 5, 2, []), (36, .ireturn, 1, [])]
/-- CustomsDesk.part(II)I -/
def mk_14 : List mg_E := [(0, .aload_n 0, 1, []), (1, .iload_n 1, 1, []), (2, .invokevirtual 143, 3, [42, 1, 605]), (5, .iload_n 2, 1, []), (6, .iconst 1, 1, []), (7, .sipush 9999, 3, []), (10, .invokestatic 78, 3, [0, 54, 3, 477]), (13, .ifCond .ne 13, 3, [26]), (16, .new 86, 3, [1, 1, 213, 90, 0, 489, 750]), (26, .aload_n 0, 1, []), (27, .getfield 31, 3, [7, 3, 0, 281]), (30, .getfield 215, 3, [3, 0, 1, 246]), (33, .invokevirtual 91, 3, [183, 0, 505]), (36, .ifCond .eq 13, 3, [49]), (39, .new 99, 3, [1, 2, 218, 103, 0, 513, 751]), (49, .aload_n 0, 1, []), (50, .invokevirtual 104, 3, [38, 0, 313]), (53, .aload_n 0, 1, []), (54, .getfield 31, 3, [7, 3, 0, 281]), (57, .iload_n 1, 1, []), (58, .iload_n 2, 1, []), (59, .invokevirtual 220, 3, [176, 2, 752]), (62, .aload_n 0, 1, []), (63, .getfield 31, 3, [7, 3, 0, 281]), (66, .getfield 215, 3, [3, 0, 1, 246]), (69, .invokevirtual 158, 3, [181, 0, 350]), (72, .ireturn, 1, [])]
/-- CustomsDesk.forget()I -/
def mk_15 : List mg_E := [(0, .aload_n 0, 1, []), (1, .invokevirtual 104, 3, [38, 0, 313]), (4, .aload_n 0, 1, []), (5, .getfield 31, 3, [7, 3, 0, 281]), (8, .getfield 215, 3, [3, 0, 1, 246]), (11, .invokevirtual 158, 3, [181, 0, 350]), (14, .istore_n 1, 1, []), (15, .aload_n 0, 1, []), (16, .getfield 31, 3, [7, 3, 0, 281]), (19, .getfield 215, 3, [3, 0, 1, 246]), (22, .invokevirtual 224, 3, [189, 0, 354]), (25, .iload_n 1, 1, []), (26, .ireturn, 1, [])]
/-- CustomsDesk.origin()I -/
def mk_16 : List mg_E := [(0, .aload_n 0, 1, []), (1, .getfield 31, 3, [7, 3, 0, 281]), (4, .getfield 215, 3, [3, 0, 1, 246]), (7, .invokevirtual 158, 3, [181, 0, 350]), (10, .ifCond .ne 13, 3, [23]), (13, .new 138, 3, [1, 3, 227, 142, 0, 582, 765]), (23, .aload_n 0, 1, []), (24, .getfield 31, 3, [7, 3, 0, 281]), (27, .aload_n 0, 1, []), (28, .getfield 20, 3, [7, 1, 0, 279]), (31, .iconst 0, 1, []), (32, .invokevirtual 190, 3, [195, 1, 676]), (35, .invokevirtual 229, 3, [179, 1, 766]), (38, .ireturn, 1, [])]
/-- CustomsDesk.declare(IIII)I -/
def mk_17 : List mg_E := [(0, .aload_n 0, 1, []), (1, .iload_n 1, 1, []), (2, .invokevirtual 115, 3, [41, 1, 542]), (5, .iload 4, 2, []), (7, .iconst (-1), 1, []), (8, .if_icmp .eq 9, 3, [17]), (11, .aload_n 0, 1, []), (12, .iload 4, 2, []), (14, .invokevirtual 180, 3, [43, 1, 658]), (17, .iload_n 2, 1, []), (18, .iconst 1, 1, []), (19, .sipush 999, 3, []), (22, .invokestatic 78, 3, [0, 54, 3, 477]), (25, .ifCond .eq 12, 3, [37]), (28, .iload_n 3, 1, []), (29, .iconst 0, 1, []), (30, .iconst 2, 1, []), (31, .invokestatic 78, 3, [0, 54, 3, 477]), (34, .ifCond .ne 13, 3, [47]), (37, .new 86, 3, [1, 1, 232, 90, 0, 489, 787]), (47, .aload_n 0, 1, []), (48, .getfield 20, 3, [7, 1, 0, 279]), (51, .iload_n 1, 1, []), (52, .invokevirtual 127, 3, [200, 1, 560]), (55, .ifCond .gt 29, 3, [84]), (58, .aload_n 0, 1, []), (59, .getfield 31, 3, [7, 3, 0, 281]), (62, .getfield 215, 3, [3, 0, 1, 246]), (65, .invokevirtual 158, 3, [181, 0, 350]), (68, .ifCond .eq 16, 3, [84]), (71, .aload_n 0, 1, []), (72, .getfield 12, 3, [7, 0, 0, 278]), (75, .getfield 234, 3, [2, 3, 1, 223]), (78, .invokevirtual 91, 3, [183, 0, 505]), (81, .ifCond .eq 13, 3, [94]), (84, .new 99, 3, [1, 2, 237, 103, 0, 513, 788]), (94, .aload_n 0, 1, []), (95, .invokevirtual 104, 3, [38, 0, 313]), (98, .aload_n 0, 1, []), (99, .getfield 12, 3, [7, 0, 0, 278]), (102, .iload_n 1, 1, []), (103, .iload_n 2, 1, []), (104, .iload_n 3, 1, []), (105, .iload 4, 2, []), (107, .aload_n 0, 1, []), (108, .getfield 31, 3, [7, 3, 0, 281]), (111, .invokevirtual 239, 3, [152, 5, 789]), (114, .istore 5, 2, []), (116, .aload_n 0, 1, []), (117, .getfield 31, 3, [7, 3, 0, 281]), (120, .getfield 215, 3, [3, 0, 1, 246]), (123, .invokevirtual 224, 3, [189, 0, 354]), (126, .iload 5, 2, []), (128, .ireturn, 1, [])]
/-- CustomsDesk.declaration(II)I -/
def mk_18 : List mg_E := [(0, .aload_n 0, 1, []), (1, .iload_n 1, 1, []), (2, .invokevirtual 243, 3, [44, 1, 806]), (5, .iload_n 2, 1, []), (6, .iconst 0, 1, []), (7, .bipush 14, 2, []), (9, .invokestatic 78, 3, [0, 54, 3, 477]), (12, .ifCond .ne 13, 3, [25]), (15, .new 86, 3, [1, 1, 246, 90, 0, 489, 811]), (25, .aload_n 0, 1, []), (26, .getfield 12, 3, [7, 0, 0, 278]), (29, .getfield 234, 3, [2, 3, 1, 223]), (32, .iload_n 1, 1, []), (33, .iload_n 2, 1, []), (34, .invokevirtual 120, 3, [184, 2, 548]), (37, .ireturn, 1, [])]
/-- CustomsDesk.claim(I)I -/
def mk_19 : List mg_E := [(0, .aload_n 0, 1, []), (1, .iload_n 1, 1, []), (2, .invokevirtual 243, 3, [44, 1, 806]), (5, .aload_n 0, 1, []), (6, .getfield 12, 3, [7, 0, 0, 278]), (9, .iload_n 1, 1, []), (10, .iconst 0, 1, []), (11, .invokevirtual 248, 3, [153, 2, 819]), (14, .ifCond .eq 19, 3, [33]), (17, .aload_n 0, 1, []), (18, .getfield 12, 3, [7, 0, 0, 278]), (21, .getfield 234, 3, [2, 3, 1, 223]), (24, .iload_n 1, 1, []), (25, .iconst 5, 1, []), (26, .invokevirtual 120, 3, [184, 2, 548]), (29, .iconst (-1), 1, []), (30, .if_icmp .ne 13, 3, [43]), (33, .new 99, 3, [1, 2, 251, 103, 0, 513, 824]), (43, .aload_n 0, 1, []), (44, .getfield 12, 3, [7, 0, 0, 278]), (47, .iload_n 1, 1, []), (48, .invokevirtual 253, 3, [155, 1, 825]), (51, .ireturn, 1, [])]
/-- CustomsDesk.leftThen(I)I -/
def mk_20 : List mg_E := [(0, .aload_n 0, 1, []), (1, .iload_n 1, 1, []), (2, .invokevirtual 180, 3, [43, 1, 658]), (5, .aload_n 0, 1, []), (6, .getfield 12, 3, [7, 0, 0, 278]), (9, .getfield 175, 3, [2, 2, 1, 221]), (12, .iload_n 1, 1, []), (13, .bipush 6, 2, []), (15, .invokevirtual 120, 3, [184, 2, 548]), (18, .istore_n 2, 1, []), (19, .iload_n 2, 1, []), (20, .iload_n 2, 1, []), (21, .aload_n 0, 1, []), (22, .getfield 12, 3, [7, 0, 0, 278]), (25, .iload_n 1, 1, []), (26, .invokevirtual 256, 3, [156, 1, 844]), (29, .invokestatic 259, 3, [4, 347]), (32, .isub, 1, []), (33, .ireturn, 1, [])]
/-- CustomsDesk.pass(I)I -/
def mk_21 : List mg_E := [(0, .iload_n 1, 1, []), (1, .iconst 1, 1, []), (2, .bipush 99, 2, []), (4, .invokestatic 78, 3, [0, 54, 3, 477]), (7, .ifCond .ne 14, 3, [21]), (10, .new 86, 3, [1, 1, 264, 90, 1, 489, 862]), (21, .aload_n 0, 1, []), (22, .getfield 25, 3, [7, 2, 0, 280]), (25, .invokevirtual 168, 3, [144, 0, 644]), (28, .iload_n 1, 1, []), (29, .iadd, 1, []), (30, .sipush 999, 3, []), (33, .if_icmp .le 14, 3, [47]), (36, .new 99, 3, [1, 2, 266, 103, 1, 513, 863]), (47, .aload_n 0, 1, []), (48, .invokevirtual 104, 3, [38, 0, 313]), (51, .iconst 0, 1, []), (52, .istore_n 2, 1, []), (53, .iload_n 2, 1, []), (54, .aload_n 0, 1, []), (55, .getfield 12, 3, [7, 0, 0, 278]), (58, .getfield 175, 3, [2, 2, 1, 221]), (61, .invokevirtual 158, 3, [181, 0, 350]), (64, .if_icmp .ge 25, 3, [89]), (67, .aload_n 0, 1, []), (68, .getfield 12, 3, [7, 0, 0, 278]), (71, .iload_n 2, 1, []), (72, .aload_n 0, 1, []), (73, .getfield 12, 3, [7, 0, 0, 278]), (76, .iload_n 2, 1, []), (77, .invokevirtual 256, 3, [156, 1, 844]), (80, .invokevirtual 268, 3, [157, 2, 864]), (83, .iinc 2 1, 3, []), (86, .goto (-33), 3, [53]), (89, .aload_n 0, 1, []), (90, .getfield 12, 3, [7, 0, 0, 278]), (93, .invokevirtual 271, 3, [158, 0, 884]), (96, .istore_n 2, 1, []), (97, .aload_n 0, 1, []), (98, .getfield 25, 3, [7, 2, 0, 280]), (101, .getfield 274, 3, [1, 0, 1, 176]), (104, .iconst 0, 1, []), (105, .iconst 0, 1, []), (106, .aload_n 0, 1, []), (107, .getfield 25, 3, [7, 2, 0, 280]), (110, .invokevirtual 168, 3, [144, 0, 644]), (113, .iload_n 1, 1, []), (114, .iadd, 1, []), (115, .invokevirtual 111, 3, [185, 3, 534]), (118, .iload_n 2, 1, []), (119, .ireturn, 1, [])]
/-- CustomsDesk.refund(I)I -/
def mk_22 : List mg_E := [(0, .aload_n 0, 1, []), (1, .iload_n 1, 1, []), (2, .invokevirtual 243, 3, [44, 1, 806]), (5, .aload_n 0, 1, []), (6, .iload_n 1, 1, []), (7, .invokevirtual 277, 3, [45, 1, 914]), (10, .aload_n 0, 1, []), (11, .invokevirtual 104, 3, [38, 0, 313]), (14, .aload_n 0, 1, []), (15, .getfield 12, 3, [7, 0, 0, 278]), (18, .iload_n 1, 1, []), (19, .invokevirtual 280, 3, [160, 1, 938]), (22, .ireturn, 1, [])]
/-- CustomsDesk.prove(II)I -/
def mk_23 : List mg_E := [(0, .aload_n 0, 1, []), (1, .iload_n 1, 1, []), (2, .invokevirtual 243, 3, [44, 1, 806]), (5, .iload_n 2, 1, []), (6, .iconst 1, 1, []), (7, .iconst 2, 1, []), (8, .invokestatic 78, 3, [0, 54, 3, 477]), (11, .ifCond .ne 14, 3, [25]), (14, .new 86, 3, [1, 1, 283, 90, 1, 489, 965]), (25, .aload_n 0, 1, []), (26, .iload_n 1, 1, []), (27, .invokevirtual 277, 3, [45, 1, 914]), (30, .aload_n 0, 1, []), (31, .invokevirtual 104, 3, [38, 0, 313]), (34, .aload_n 0, 1, []), (35, .getfield 12, 3, [7, 0, 0, 278]), (38, .iload_n 1, 1, []), (39, .iload_n 2, 1, []), (40, .invokevirtual 285, 3, [161, 2, 966]), (43, .ireturn, 1, [])]
/-- CustomsDesk.refusal()I -/
def mk_24 : List mg_E := [(0, .aload_n 0, 1, []), (1, .getfield 56, 3, [7, 9, 0, 287]), (4, .ifCond .ne 14, 3, [18]), (7, .new 138, 3, [1, 3, 288, 142, 1, 582, 977]), (18, .aload_n 0, 1, []), (19, .getfield 56, 3, [7, 9, 0, 287]), (22, .ireturn, 1, [])]
/-- CustomsDesk.account(I)I -/
def mk_25 : List mg_E := [(0, .iload_n 1, 1, []), (1, .tableswitch 180 0 11 #[63, 74, 85, 96, 107, 118, 127, 136, 145, 153, 161, 169], 63, [181, 64, 75, 86, 97, 108, 119, 128, 137, 146, 154, 162, 170]), (64, .aload_n 0, 1, []), (65, .getfield 20, 3, [7, 1, 0, 279]), (68, .getfield 59, 3, [5, 0, 1, 151]), (71, .invokevirtual 158, 3, [181, 0, 350]), (74, .ireturn, 1, []), (75, .aload_n 0, 1, []), (76, .getfield 20, 3, [7, 1, 0, 279]), (79, .getfield 148, 3, [5, 1, 1, 153]), (82, .invokevirtual 158, 3, [181, 0, 350]), (85, .ireturn, 1, []), (86, .aload_n 0, 1, []), (87, .getfield 20, 3, [7, 1, 0, 279]), (90, .getfield 163, 3, [5, 2, 1, 155]), (93, .invokevirtual 158, 3, [181, 0, 350]), (96, .ireturn, 1, []), (97, .aload_n 0, 1, []), (98, .getfield 12, 3, [7, 0, 0, 278]), (101, .getfield 175, 3, [2, 2, 1, 221]), (104, .invokevirtual 158, 3, [181, 0, 350]), (107, .ireturn, 1, []), (108, .aload_n 0, 1, []), (109, .getfield 12, 3, [7, 0, 0, 278]), (112, .getfield 234, 3, [2, 3, 1, 223]), (115, .invokevirtual 158, 3, [181, 0, 350]), (118, .ireturn, 1, []), (119, .aload_n 0, 1, []), (120, .getfield 12, 3, [7, 0, 0, 278]), (123, .iconst 0, 1, []), (124, .invokevirtual 290, 3, [154, 1, 985]), (127, .ireturn, 1, []), (128, .aload_n 0, 1, []), (129, .getfield 12, 3, [7, 0, 0, 278]), (132, .iconst 1, 1, []), (133, .invokevirtual 290, 3, [154, 1, 985]), (136, .ireturn, 1, []), (137, .aload_n 0, 1, []), (138, .getfield 12, 3, [7, 0, 0, 278]), (141, .iconst 2, 1, []), (142, .invokevirtual 290, 3, [154, 1, 985]), (145, .ireturn, 1, []), (146, .aload_n 0, 1, []), (147, .getfield 25, 3, [7, 2, 0, 280]), (150, .invokevirtual 293, 3, [145, 0, 989]), (153, .ireturn, 1, []), (154, .aload_n 0, 1, []), (155, .getfield 25, 3, [7, 2, 0, 280]), (158, .invokevirtual 296, 3, [146, 0, 993]), (161, .ireturn, 1, []), (162, .aload_n 0, 1, []), (163, .getfield 25, 3, [7, 2, 0, 280]), (166, .invokevirtual 168, 3, [144, 0, 644]), (169, .ireturn, 1, []), (170, .aload_n 0, 1, []), (171, .getfield 31, 3, [7, 3, 0, 281]), (174, .getfield 215, 3, [3, 0, 1, 246]), (177, .invokevirtual 158, 3, [181, 0, 350]), (180, .ireturn, 1, []), (181, .new 86, 3, [1, 1, 299, 90, 1, 489, 997])]
/-- CustomsDesk.kept(I)I -/
def mk_26 : List mg_E := [(0, .aload_n 0, 1, []), (1, .iload_n 1, 1, []), (2, .invokevirtual 143, 3, [42, 1, 605]), (5, .aload_n 0, 1, []), (6, .getfield 25, 3, [7, 2, 0, 280]), (9, .getfield 301, 3, [1, 1, 1, 178]), (12, .iload_n 1, 1, []), (13, .iconst 0, 1, []), (14, .invokevirtual 120, 3, [184, 2, 548]), (17, .ireturn, 1, [])]
/-- CustomsDesk.keptAgain(I)I -/
def mk_27 : List mg_E := [(0, .aload_n 0, 1, []), (1, .iload_n 1, 1, []), (2, .invokevirtual 143, 3, [42, 1, 605]), (5, .iconst 0, 1, []), (6, .istore_n 2, 1, []), (7, .iconst 0, 1, []), (8, .istore_n 3, 1, []), (9, .iload_n 3, 1, []), (10, .aload_n 0, 1, []), (11, .getfield 12, 3, [7, 0, 0, 278]), (14, .getfield 234, 3, [2, 3, 1, 223]), (17, .invokevirtual 158, 3, [181, 0, 350]), (20, .if_icmp .ge 36, 3, [56]), (23, .aload_n 0, 1, []), (24, .getfield 12, 3, [7, 0, 0, 278]), (27, .getfield 234, 3, [2, 3, 1, 223]), (30, .iload_n 3, 1, []), (31, .iconst 3, 1, []), (32, .invokevirtual 120, 3, [184, 2, 548]), (35, .iload_n 1, 1, []), (36, .if_icmp .ne 14, 3, [50]), (39, .iload_n 2, 1, []), (40, .aload_n 0, 1, []), (41, .getfield 12, 3, [7, 0, 0, 278]), (44, .iload_n 3, 1, []), (45, .invokevirtual 304, 3, [162, 1, 1012]), (48, .iadd, 1, []), (49, .istore_n 2, 1, []), (50, .iinc 3 1, 3, []), (53, .goto (-44), 3, [9]), (56, .iload_n 2, 1, []), (57, .ireturn, 1, [])]
/-- CustomsDesk.keptUnder(I)I -/
def mk_28 : List mg_E := [(0, .aload_n 0, 1, []), (1, .iload_n 1, 1, []), (2, .invokevirtual 115, 3, [41, 1, 542]), (5, .iconst 0, 1, []), (6, .istore_n 2, 1, []), (7, .iconst 0, 1, []), (8, .istore_n 3, 1, []), (9, .iload_n 3, 1, []), (10, .aload_n 0, 1, []), (11, .getfield 12, 3, [7, 0, 0, 278]), (14, .getfield 234, 3, [2, 3, 1, 223]), (17, .invokevirtual 158, 3, [181, 0, 350]), (20, .if_icmp .ge 43, 3, [63]), (23, .aload_n 0, 1, []), (24, .getfield 20, 3, [7, 1, 0, 279]), (27, .aload_n 0, 1, []), (28, .getfield 12, 3, [7, 0, 0, 278]), (31, .getfield 234, 3, [2, 3, 1, 223]), (34, .iload_n 3, 1, []), (35, .iconst 0, 1, []), (36, .invokevirtual 120, 3, [184, 2, 548]), (39, .iload_n 1, 1, []), (40, .invokevirtual 307, 3, [201, 2, 1020]), (43, .ifCond .eq 14, 3, [57]), (46, .iload_n 2, 1, []), (47, .aload_n 0, 1, []), (48, .getfield 12, 3, [7, 0, 0, 278]), (51, .iload_n 3, 1, []), (52, .invokevirtual 304, 3, [162, 1, 1012]), (55, .iadd, 1, []), (56, .istore_n 2, 1, []), (57, .iinc 3 1, 3, []), (60, .goto (-51), 3, [9]), (63, .iload_n 2, 1, []), (64, .ireturn, 1, [])]
/-- CustomsDesk.givenBack()D -/
def mk_29 : List mg_E := [(0, .aload_n 0, 1, []), (1, .getfield 25, 3, [7, 2, 0, 280]), (4, .invokevirtual 293, 3, [145, 0, 989]), (7, .ifCond .ne 14, 3, [21]), (10, .new 310, 3, [1, 5, 312, 314, 1, 1042, 1043]), (21, .aload_n 0, 1, []), (22, .getfield 25, 3, [7, 2, 0, 280]), (25, .invokevirtual 296, 3, [146, 0, 993]), (28, .i2d, 1, []), (29, .aload_n 0, 1, []), (30, .getfield 25, 3, [7, 2, 0, 280]), (33, .invokevirtual 293, 3, [145, 0, 989]), (36, .i2d, 1, []), (37, .ddiv, 1, []), (38, .dreturn, 1, [])]
/-- CustomsDesk.meanRate()F -/
def mk_30 : List mg_E := [(0, .aload_n 0, 1, []), (1, .getfield 12, 3, [7, 0, 0, 278]), (4, .invokevirtual 315, 3, [163, 0, 1052]), (7, .istore_n 1, 1, []), (8, .iload_n 1, 1, []), (9, .ifCond .ne 14, 3, [23]), (12, .new 310, 3, [1, 5, 318, 314, 1, 1042, 1056]), (23, .aload_n 0, 1, []), (24, .getfield 25, 3, [7, 2, 0, 280]), (27, .invokevirtual 293, 3, [145, 0, 989]), (30, .aload_n 0, 1, []), (31, .getfield 25, 3, [7, 2, 0, 280]), (34, .invokevirtual 296, 3, [146, 0, 993]), (37, .isub, 1, []), (38, .i2f, 1, []), (39, .iload_n 1, 1, []), (40, .i2f, 1, []), (41, .fdiv, 1, []), (42, .freturn, 1, [])]
/-- CustomsDesk.append(C)I -/
def mk_31 : List mg_E := [(0, .iload_n 1, 1, []), (1, .bipush 33, 2, []), (3, .bipush 126, 2, []), (5, .invokestatic 78, 3, [0, 54, 3, 477]), (8, .ifCond .ne 14, 3, [22]), (11, .new 86, 3, [1, 1, 320, 90, 1, 489, 1064]), (22, .aload_n 0, 1, []), (23, .getfield 41, 3, [7, 5, 0, 283]), (26, .getfield 322, 3, [6, 2, 1, 262]), (29, .bipush 60, 2, []), (31, .if_icmp .lt 14, 3, [45]), (34, .new 99, 3, [1, 2, 325, 103, 1, 513, 1065]), (45, .aload_n 0, 1, []), (46, .getfield 41, 3, [7, 5, 0, 283]), (49, .iload_n 1, 1, []), (50, .invokevirtual 327, 3, [212, 1, 1066]), (53, .ireturn, 1, [])]
/-- CustomsDesk.lodge()I -/
def mk_32 : List mg_E := [(0, .aload_n 0, 1, []), (1, .getfield 41, 3, [7, 5, 0, 283]), (4, .invokevirtual 331, 3, [213, 0, 1077]), (7, .ifCond .ne 14, 3, [21]), (10, .new 86, 3, [1, 1, 334, 90, 1, 489, 1119]), (21, .aload_n 0, 1, []), (22, .invokevirtual 336, 3, [47, 0, 1120]), (25, .ifCond .ne 14, 3, [39]), (28, .new 138, 3, [1, 3, 339, 142, 1, 582, 1124]), (39, .aload_n 0, 1, []), (40, .invokevirtual 341, 3, [48, 0, 1125]), (43, .ifCond .ne 14, 3, [57]), (46, .new 99, 3, [1, 2, 344, 103, 1, 513, 1142]), (57, .aload_n 0, 1, []), (58, .invokevirtual 104, 3, [38, 0, 313]), (61, .aload_n 0, 1, []), (62, .getfield 41, 3, [7, 5, 0, 283]), (65, .getfield 346, 3, [6, 1, 1, 260]), (68, .invokevirtual 158, 3, [181, 0, 350]), (71, .istore_n 1, 1, []), (72, .iconst 0, 1, []), (73, .istore_n 2, 1, []), (74, .iload_n 2, 1, []), (75, .iload_n 1, 1, []), (76, .if_icmp .ge 14, 3, [90]), (79, .aload_n 0, 1, []), (80, .iload_n 2, 1, []), (81, .invokevirtual 349, 3, [51, 1, 1143]), (84, .iinc 2 1, 3, []), (87, .goto (-13), 3, [74]), (90, .iload_n 1, 1, []), (91, .ireturn, 1, [])]
/-- CustomsDesk.errorPosition()I -/
def mk_33 : List mg_E := [(0, .aload_n 0, 1, []), (1, .getfield 41, 3, [7, 5, 0, 283]), (4, .getfield 352, 3, [6, 4, 1, 265]), (7, .iconst (-1), 1, []), (8, .if_icmp .ne 14, 3, [22]), (11, .new 138, 3, [1, 3, 355, 142, 1, 582, 1154]), (22, .aload_n 0, 1, []), (23, .getfield 41, 3, [7, 5, 0, 283]), (26, .getfield 352, 3, [6, 4, 1, 265]), (29, .ireturn, 1, [])]
/-- CustomsDesk.changes()I -/
def mk_34 : List mg_E := [(0, .aload_n 0, 1, []), (1, .getfield 49, 3, [7, 7, 0, 285]), (4, .ireturn, 1, [])]
/-- CustomsDesk.undo()I -/
def mk_35 : List mg_E := [(0, .aload_n 0, 1, []), (1, .getfield 49, 3, [7, 7, 0, 285]), (4, .ifCond .ne 14, 3, [18]), (7, .new 99, 3, [1, 2, 357, 103, 1, 513, 1162]), (18, .aload_n 0, 1, []), (19, .aload_n 0, 1, []), (20, .getfield 45, 3, [7, 6, 0, 284]), (23, .bipush 8, 2, []), (25, .iadd, 1, []), (26, .iconst 1, 1, []), (27, .isub, 1, []), (28, .bipush 8, 2, []), (30, .irem, 1, []), (31, .putfield 45, 3, [7, 6, 0, 284]), (34, .aload_n 0, 1, []), (35, .dup, 1, []), (36, .getfield 49, 3, [7, 7, 0, 285]), (39, .iconst 1, 1, []), (40, .isub, 1, []), (41, .putfield 49, 3, [7, 7, 0, 285]), (44, .aload_n 0, 1, []), (45, .aload_n 0, 1, []), (46, .getfield 45, 3, [7, 6, 0, 284]), (49, .invokevirtual 359, 3, [40, 1, 1163]), (52, .aload_n 0, 1, []), (53, .getfield 49, 3, [7, 7, 0, 285]), (56, .ireturn, 1, [])]
/-- CustomsDesk.save()I -/
def mk_36 : List mg_E := [(0, .aload_n 0, 1, []), (1, .bipush 8, 2, []), (3, .invokevirtual 362, 3, [39, 1, 317]), (6, .aload_n 0, 1, []), (7, .iconst 1, 1, []), (8, .putfield 52, 3, [7, 8, 0, 286]), (11, .aload_n 0, 1, []), (12, .getfield 12, 3, [7, 0, 0, 278]), (15, .getfield 234, 3, [2, 3, 1, 223]), (18, .invokevirtual 158, 3, [181, 0, 350]), (21, .ireturn, 1, [])]
/-- CustomsDesk.restore()I -/
def mk_37 : List mg_E := [(0, .aload_n 0, 1, []), (1, .getfield 52, 3, [7, 8, 0, 286]), (4, .ifCond .ne 14, 3, [18]), (7, .new 99, 3, [1, 2, 365, 103, 1, 513, 1193]), (18, .aload_n 0, 1, []), (19, .invokevirtual 104, 3, [38, 0, 313]), (22, .aload_n 0, 1, []), (23, .bipush 8, 2, []), (25, .invokevirtual 359, 3, [40, 1, 1163]), (28, .aload_n 0, 1, []), (29, .getfield 12, 3, [7, 0, 0, 278]), (32, .getfield 234, 3, [2, 3, 1, 223]), (35, .invokevirtual 158, 3, [181, 0, 350]), (38, .ireturn, 1, [])]
/-- CustomsDesk.keepForUndo()V -/
def mk_38 : List mg_E := [(0, .aload_n 0, 1, []), (1, .aload_n 0, 1, []), (2, .getfield 45, 3, [7, 6, 0, 284]), (5, .invokevirtual 362, 3, [39, 1, 317]), (8, .aload_n 0, 1, []), (9, .aload_n 0, 1, []), (10, .getfield 45, 3, [7, 6, 0, 284]), (13, .iconst 1, 1, []), (14, .iadd, 1, []), (15, .bipush 8, 2, []), (17, .irem, 1, []), (18, .putfield 45, 3, [7, 6, 0, 284]), (21, .aload_n 0, 1, []), (22, .bipush 8, 2, []), (24, .aload_n 0, 1, []), (25, .getfield 49, 3, [7, 7, 0, 285]), (28, .iconst 1, 1, []), (29, .iadd, 1, []), (30, .invokestatic 259, 3, [4, 347]), (33, .putfield 49, 3, [7, 7, 0, 285]), (36, .return_, 1, [])]
/-- CustomsDesk.keepIn(I)V -/
def mk_39 : List mg_E := [(0, .aload_n 0, 1, []), (1, .getfield 12, 3, [7, 0, 0, 278]), (4, .iload_n 1, 1, []), (5, .invokevirtual 367, 3, [164, 1, 321]), (8, .aload_n 0, 1, []), (9, .getfield 31, 3, [7, 3, 0, 281]), (12, .getfield 215, 3, [3, 0, 1, 246]), (15, .iload_n 1, 1, []), (16, .invokevirtual 368, 3, [190, 1, 346]), (19, .return_, 1, [])]
/-- CustomsDesk.bringFrom(I)V -/
def mk_40 : List mg_E := [(0, .aload_n 0, 1, []), (1, .getfield 12, 3, [7, 0, 0, 278]), (4, .iload_n 1, 1, []), (5, .invokevirtual 369, 3, [165, 1, 1167]), (8, .aload_n 0, 1, []), (9, .getfield 31, 3, [7, 3, 0, 281]), (12, .getfield 215, 3, [3, 0, 1, 246]), (15, .iload_n 1, 1, []), (16, .invokevirtual 370, 3, [191, 1, 1185]), (19, .return_, 1, [])]
/-- CustomsDesk.requireHeading(I)V -/
def mk_41 : List mg_E := [(0, .aload_n 0, 1, []), (1, .getfield 20, 3, [7, 1, 0, 279]), (4, .getfield 59, 3, [5, 0, 1, 151]), (7, .iload_n 1, 1, []), (8, .invokevirtual 65, 3, [182, 1, 459]), (11, .ifCond .ne 14, 3, [25]), (14, .new 71, 3, [1, 0, 371, 75, 1, 464, 546]), (25, .return_, 1, [])]
/-- CustomsDesk.requireCountry(I)V -/
def mk_42 : List mg_E := [(0, .iload_n 1, 1, []), (1, .invokestatic 373, 3, [0, 53, 1, 609]), (4, .ifCond .ne 14, 3, [18]), (7, .new 71, 3, [1, 0, 376, 75, 1, 464, 612]), (18, .return_, 1, [])]
/-- CustomsDesk.requireQuota(I)V -/
def mk_43 : List mg_E := [(0, .aload_n 0, 1, []), (1, .getfield 12, 3, [7, 0, 0, 278]), (4, .getfield 175, 3, [2, 2, 1, 221]), (7, .iload_n 1, 1, []), (8, .invokevirtual 65, 3, [182, 1, 459]), (11, .ifCond .ne 14, 3, [25]), (14, .new 71, 3, [1, 0, 378, 75, 1, 464, 662]), (25, .return_, 1, [])]
/-- CustomsDesk.requireDeclaration(I)V -/
def mk_44 : List mg_E := [(0, .aload_n 0, 1, []), (1, .getfield 12, 3, [7, 0, 0, 278]), (4, .getfield 234, 3, [2, 3, 1, 223]), (7, .iload_n 1, 1, []), (8, .invokevirtual 65, 3, [182, 1, 459]), (11, .ifCond .ne 14, 3, [25]), (14, .new 71, 3, [1, 0, 380, 75, 1, 464, 810]), (25, .return_, 1, [])]
/-- CustomsDesk.requireNoRefusal(I)V -/
def mk_45 : List mg_E := [(0, .aload_n 0, 1, []), (1, .getfield 12, 3, [7, 0, 0, 278]), (4, .iload_n 1, 1, []), (5, .invokevirtual 382, 3, [159, 1, 918]), (8, .istore_n 2, 1, []), (9, .iload_n 2, 1, []), (10, .ifCond .eq 19, 3, [29]), (13, .aload_n 0, 1, []), (14, .iload_n 2, 1, []), (15, .putfield 56, 3, [7, 9, 0, 287]), (18, .new 385, 3, [1, 4, 387, 389, 1, 922, 931]), (29, .return_, 1, [])]
/-- CustomsDesk.goodsNow(IIII)LCustomsDesk$Goods; -/
def mk_46 : List mg_E := [(0, .aload_n 0, 1, []), (1, .iload_n 1, 1, []), (2, .invokevirtual 115, 3, [41, 1, 542]), (5, .aload_n 0, 1, []), (6, .iload_n 2, 1, []), (7, .invokevirtual 143, 3, [42, 1, 605]), (10, .iload_n 3, 1, []), (11, .iconst 1, 1, []), (12, .ldc_w 390, 3, [99999]), (15, .invokestatic 78, 3, [0, 54, 3, 477]), (18, .ifCond .eq 13, 3, [31]), (21, .iload 4, 2, []), (23, .iconst 0, 1, []), (24, .iconst 2, 1, []), (25, .invokestatic 78, 3, [0, 54, 3, 477]), (28, .ifCond .ne 14, 3, [42]), (31, .new 86, 3, [1, 1, 391, 90, 1, 489, 691]), (42, .aload_n 0, 1, []), (43, .getfield 12, 3, [7, 0, 0, 278]), (46, .getfield 393, 3, [2, 4, 1, 225]), (49, .iload_n 1, 1, []), (50, .iload_n 2, 1, []), (51, .iload_n 3, 1, []), (52, .iload 4, 2, []), (54, .aload_n 0, 1, []), (55, .getfield 25, 3, [7, 2, 0, 280]), (58, .invokevirtual 168, 3, [144, 0, 644]), (61, .invokevirtual 397, 3, [142, 5, 692]), (64, .aload_n 0, 1, []), (65, .getfield 12, 3, [7, 0, 0, 278]), (68, .getfield 393, 3, [2, 4, 1, 225]), (71, .areturn, 1, [])]
/-- CustomsDesk.areCodesKnown()Z -/
def mk_47 : List mg_E := [(0, .iconst 0, 1, []), (1, .istore_n 1, 1, []), (2, .iload_n 1, 1, []), (3, .aload_n 0, 1, []), (4, .getfield 41, 3, [7, 5, 0, 283]), (7, .getfield 346, 3, [6, 1, 1, 260]), (10, .invokevirtual 158, 3, [181, 0, 350]), (13, .if_icmp .ge 34, 3, [47]), (16, .aload_n 0, 1, []), (17, .getfield 20, 3, [7, 1, 0, 279]), (20, .aload_n 0, 1, []), (21, .getfield 41, 3, [7, 5, 0, 283]), (24, .getfield 346, 3, [6, 1, 1, 260]), (27, .iload_n 1, 1, []), (28, .iconst 0, 1, []), (29, .invokevirtual 120, 3, [184, 2, 548]), (32, .invokevirtual 135, 3, [199, 1, 577]), (35, .iconst (-1), 1, []), (36, .if_icmp .ne 5, 3, [41]), (39, .iconst 0, 1, []), (40, .ireturn, 1, []), (41, .iinc 1 1, 3, []), (44, .goto (-42), 3, [2]), (47, .iconst 1, 1, []), (48, .ireturn, 1, [])]
/-- CustomsDesk.canDeclareEntries()Z -/
def mk_48 : List mg_E := [(0, .aload_n 0, 1, []), (1, .getfield 12, 3, [7, 0, 0, 278]), (4, .getfield 234, 3, [2, 3, 1, 223]), (7, .invokevirtual 158, 3, [181, 0, 350]), (10, .aload_n 0, 1, []), (11, .getfield 41, 3, [7, 5, 0, 283]), (14, .getfield 346, 3, [6, 1, 1, 260]), (17, .invokevirtual 158, 3, [181, 0, 350]), (20, .iadd, 1, []), (21, .bipush 30, 2, []), (23, .if_icmp .le 5, 3, [28]), (26, .iconst 0, 1, []), (27, .ireturn, 1, []), (28, .iconst 0, 1, []), (29, .istore_n 1, 1, []), (30, .iload_n 1, 1, []), (31, .aload_n 0, 1, []), (32, .getfield 41, 3, [7, 5, 0, 283]), (35, .getfield 346, 3, [6, 1, 1, 260]), (38, .invokevirtual 158, 3, [181, 0, 350]), (41, .if_icmp .ge 19, 3, [60]), (44, .aload_n 0, 1, []), (45, .iload_n 1, 1, []), (46, .invokevirtual 403, 3, [49, 1, 1129]), (49, .ifCond .ne 5, 3, [54]), (52, .iconst 0, 1, []), (53, .ireturn, 1, []), (54, .iinc 1 1, 3, []), (57, .goto (-27), 3, [30]), (60, .iconst 1, 1, []), (61, .ireturn, 1, [])]
/-- CustomsDesk.canDeclareEntry(I)Z -/
def mk_49 : List mg_E := [(0, .aload_n 0, 1, []), (1, .getfield 41, 3, [7, 5, 0, 283]), (4, .getfield 346, 3, [6, 1, 1, 260]), (7, .iload_n 1, 1, []), (8, .iconst 3, 1, []), (9, .invokevirtual 120, 3, [184, 2, 548]), (12, .istore_n 2, 1, []), (13, .aload_n 0, 1, []), (14, .getfield 20, 3, [7, 1, 0, 279]), (17, .aload_n 0, 1, []), (18, .getfield 41, 3, [7, 5, 0, 283]), (21, .getfield 346, 3, [6, 1, 1, 260]), (24, .iload_n 1, 1, []), (25, .iconst 0, 1, []), (26, .invokevirtual 120, 3, [184, 2, 548]), (29, .invokevirtual 135, 3, [199, 1, 577]), (32, .istore_n 3, 1, []), (33, .aload_n 0, 1, []), (34, .getfield 20, 3, [7, 1, 0, 279]), (37, .iload_n 3, 1, []), (38, .invokevirtual 127, 3, [200, 1, 560]), (41, .ifCond .ne 76, 3, [117]), (44, .aload_n 0, 1, []), (45, .getfield 41, 3, [7, 5, 0, 283]), (48, .getfield 346, 3, [6, 1, 1, 260]), (51, .iload_n 1, 1, []), (52, .iconst 1, 1, []), (53, .invokevirtual 120, 3, [184, 2, 548]), (56, .iconst 1, 1, []), (57, .sipush 999, 3, []), (60, .invokestatic 78, 3, [0, 54, 3, 477]), (63, .ifCond .eq 54, 3, [117]), (66, .aload_n 0, 1, []), (67, .getfield 41, 3, [7, 5, 0, 283]), (70, .getfield 346, 3, [6, 1, 1, 260]), (73, .iload_n 1, 1, []), (74, .iconst 2, 1, []), (75, .invokevirtual 120, 3, [184, 2, 548]), (78, .iconst 0, 1, []), (79, .iconst 2, 1, []), (80, .invokestatic 78, 3, [0, 54, 3, 477]), (83, .ifCond .eq 34, 3, [117]), (86, .iload_n 2, 1, []), (87, .iconst (-1), 1, []), (88, .if_icmp .eq 17, 3, [105]), (91, .aload_n 0, 1, []), (92, .getfield 12, 3, [7, 0, 0, 278]), (95, .getfield 175, 3, [2, 2, 1, 221]), (98, .iload_n 2, 1, []), (99, .invokevirtual 65, 3, [182, 1, 459]), (102, .ifCond .eq 15, 3, [117]), (105, .aload_n 0, 1, []), (106, .iload_n 1, 1, []), (107, .invokevirtual 406, 3, [50, 1, 1133]), (110, .ifCond .eq 7, 3, [117]), (113, .iconst 1, 1, []), (114, .goto 4, 3, [118]), (117, .iconst 0, 1, []), (118, .ireturn, 1, [])]
/-- CustomsDesk.areEntryPartsInRange(I)Z -/
def mk_50 : List mg_E := [(0, .iconst 0, 1, []), (1, .istore_n 2, 1, []), (2, .iload_n 2, 1, []), (3, .aload_n 0, 1, []), (4, .getfield 41, 3, [7, 5, 0, 283]), (7, .getfield 346, 3, [6, 1, 1, 260]), (10, .iload_n 1, 1, []), (11, .iconst 4, 1, []), (12, .invokevirtual 120, 3, [184, 2, 548]), (15, .if_icmp .ge 47, 3, [62]), (18, .aload_n 0, 1, []), (19, .getfield 41, 3, [7, 5, 0, 283]), (22, .iload_n 1, 1, []), (23, .iload_n 2, 1, []), (24, .iconst 0, 1, []), (25, .invokevirtual 409, 3, [214, 3, 1137]), (28, .invokestatic 373, 3, [0, 53, 1, 609]), (31, .ifCond .eq 23, 3, [54]), (34, .aload_n 0, 1, []), (35, .getfield 41, 3, [7, 5, 0, 283]), (38, .iload_n 1, 1, []), (39, .iload_n 2, 1, []), (40, .iconst 1, 1, []), (41, .invokevirtual 409, 3, [214, 3, 1137]), (44, .iconst 1, 1, []), (45, .sipush 9999, 3, []), (48, .invokestatic 78, 3, [0, 54, 3, 477]), (51, .ifCond .ne 5, 3, [56]), (54, .iconst 0, 1, []), (55, .ireturn, 1, []), (56, .iinc 2 1, 3, []), (59, .goto (-57), 3, [2]), (62, .iconst 1, 1, []), (63, .ireturn, 1, [])]
/-- CustomsDesk.declareEntry(I)V -/
def mk_51 : List mg_E := [(0, .aload_n 0, 1, []), (1, .getfield 35, 3, [7, 4, 0, 282]), (4, .getfield 215, 3, [3, 0, 1, 246]), (7, .invokevirtual 224, 3, [189, 0, 354]), (10, .iconst 0, 1, []), (11, .istore_n 2, 1, []), (12, .iload_n 2, 1, []), (13, .aload_n 0, 1, []), (14, .getfield 41, 3, [7, 5, 0, 283]), (17, .getfield 346, 3, [6, 1, 1, 260]), (20, .iload_n 1, 1, []), (21, .iconst 4, 1, []), (22, .invokevirtual 120, 3, [184, 2, 548]), (25, .if_icmp .ge 36, 3, [61]), (28, .aload_n 0, 1, []), (29, .getfield 35, 3, [7, 4, 0, 282]), (32, .aload_n 0, 1, []), (33, .getfield 41, 3, [7, 5, 0, 283]), (36, .iload_n 1, 1, []), (37, .iload_n 2, 1, []), (38, .iconst 0, 1, []), (39, .invokevirtual 409, 3, [214, 3, 1137]), (42, .aload_n 0, 1, []), (43, .getfield 41, 3, [7, 5, 0, 283]), (46, .iload_n 1, 1, []), (47, .iload_n 2, 1, []), (48, .iconst 1, 1, []), (49, .invokevirtual 409, 3, [214, 3, 1137]), (52, .invokevirtual 220, 3, [176, 2, 752]), (55, .iinc 2 1, 3, []), (58, .goto (-46), 3, [12]), (61, .aload_n 0, 1, []), (62, .getfield 12, 3, [7, 0, 0, 278]), (65, .aload_n 0, 1, []), (66, .getfield 20, 3, [7, 1, 0, 279]), (69, .aload_n 0, 1, []), (70, .getfield 41, 3, [7, 5, 0, 283]), (73, .getfield 346, 3, [6, 1, 1, 260]), (76, .iload_n 1, 1, []), (77, .iconst 0, 1, []), (78, .invokevirtual 120, 3, [184, 2, 548]), (81, .invokevirtual 135, 3, [199, 1, 577]), (84, .aload_n 0, 1, []), (85, .getfield 41, 3, [7, 5, 0, 283]), (88, .getfield 346, 3, [6, 1, 1, 260]), (91, .iload_n 1, 1, []), (92, .iconst 1, 1, []), (93, .invokevirtual 120, 3, [184, 2, 548]), (96, .aload_n 0, 1, []), (97, .getfield 41, 3, [7, 5, 0, 283]), (100, .getfield 346, 3, [6, 1, 1, 260]), (103, .iload_n 1, 1, []), (104, .iconst 2, 1, []), (105, .invokevirtual 120, 3, [184, 2, 548]), (108, .aload_n 0, 1, []), (109, .getfield 41, 3, [7, 5, 0, 283]), (112, .getfield 346, 3, [6, 1, 1, 260]), (115, .iload_n 1, 1, []), (116, .iconst 3, 1, []), (117, .invokevirtual 120, 3, [184, 2, 548]), (120, .aload_n 0, 1, []), (121, .getfield 35, 3, [7, 4, 0, 282]), (124, .invokevirtual 239, 3, [152, 5, 789]), (127, .pop, 1, []), (128, .return_, 1, [])]
/-- CustomsDesk.isSettingValue(II)Z -/
def mk_52 : List mg_E := [(0, .iload_n 0, 1, []), (1, .tableswitch 53 0 2 #[27, 36, 44], 27, [54, 28, 37, 45]), (28, .iload_n 1, 1, []), (29, .bipush 30, 2, []), (31, .bipush 100, 2, []), (33, .invokestatic 78, 3, [0, 54, 3, 477]), (36, .ireturn, 1, []), (37, .iload_n 1, 1, []), (38, .iconst 0, 1, []), (39, .bipush 99, 2, []), (41, .invokestatic 78, 3, [0, 54, 3, 477]), (44, .ireturn, 1, []), (45, .iload_n 1, 1, []), (46, .iconst 0, 1, []), (47, .ldc_w 390, 3, [99999]), (50, .invokestatic 78, 3, [0, 54, 3, 477]), (53, .ireturn, 1, []), (54, .iconst 0, 1, []), (55, .ireturn, 1, [])]
/-- CustomsDesk.isCountry(I)Z -/
def mk_53 : List mg_E := [(0, .iload_n 0, 1, []), (1, .iconst 0, 1, []), (2, .bipush 7, 2, []), (4, .invokestatic 78, 3, [0, 54, 3, 477]), (7, .ireturn, 1, [])]
/-- CustomsDesk.isWithin(III)Z -/
def mk_54 : List mg_E := [(0, .iload_n 0, 1, []), (1, .iload_n 1, 1, []), (2, .if_icmp .lt 12, 3, [14]), (5, .iload_n 0, 1, []), (6, .iload_n 2, 1, []), (7, .if_icmp .gt 7, 3, [14]), (10, .iconst 1, 1, []), (11, .goto 4, 3, [15]), (14, .iconst 0, 1, []), (15, .ireturn, 1, [])]
/-- CustomsDesk.scaled(III)I -/
def mk_55 : List mg_E := [(0, .iload_n 2, 1, []), (1, .ifCond .le 11, 3, [12]), (4, .iload_n 0, 1, []), (5, .iload_n 1, 1, []), (6, .imul, 1, []), (7, .iload_n 2, 1, []), (8, .idiv, 1, []), (9, .goto 4, 3, [13]), (12, .iconst 0, 1, []), (13, .ireturn, 1, [])]
/-- CustomsDeskModel.<init>()V -/
def mk_56 : List mg_E := [(0, .aload_n 0, 1, []), (1, .invokespecial 1, 3, [2, 1199]), (4, .aload_n 0, 1, []), (5, .sipush 690, 3, []), (8, .newarray .int, 2, [0]), (10, .putfield 9, 3, [8, 1, 0, 1201]), (13, .aload_n 0, 1, []), (14, .sipush 5520, 3, []), (17, .newarray .int, 2, [0]), (19, .putfield 13, 3, [8, 2, 0, 1202]), (22, .aload_n 0, 1, []), (23, .sipush 690, 3, []), (26, .newarray .int, 2, [0]), (28, .putfield 16, 3, [8, 4, 0, 1204]), (31, .aload_n 0, 1, []), (32, .sipush 690, 3, []), (35, .newarray .int, 2, [0]), (37, .putfield 19, 3, [8, 6, 0, 1206]), (40, .aload_n 0, 1, []), (41, .bipush 60, 2, []), (43, .newarray .char, 2, [1]), (45, .putfield 22, 3, [8, 9, 0, 1209]), (48, .aload_n 0, 1, []), (49, .iconst (-1), 1, []), (50, .putfield 26, 3, [8, 11, 0, 1211]), (53, .aload_n 0, 1, []), (54, .bipush 30, 2, []), (56, .newarray .int, 2, [0]), (58, .putfield 30, 3, [8, 12, 0, 1212]), (61, .aload_n 0, 1, []), (62, .sipush 840, 3, []), (65, .newarray .int, 2, [0]), (67, .putfield 33, 3, [8, 15, 0, 1215]), (70, .aload_n 0, 1, []), (71, .getfield 9, 3, [8, 1, 0, 1201]), (74, .bipush 10, 2, []), (76, .bipush 50, 2, []), (78, .iastore, 1, []), (79, .aload_n 0, 1, []), (80, .getfield 9, 3, [8, 1, 0, 1201]), (83, .bipush 11, 2, []), (85, .bipush 30, 2, []), (87, .iastore, 1, []), (88, .aload_n 0, 1, []), (89, .getfield 9, 3, [8, 1, 0, 1201]), (92, .bipush 12, 2, []), (94, .sipush 600, 3, []), (97, .iastore, 1, []), (98, .return_, 1, [])]
/-- CustomsDeskModel.thrown()I -/
def mk_57 : List mg_E := [(0, .aload_n 0, 1, []), (1, .getfield 36, 3, [8, 0, 0, 1200]), (4, .ireturn, 1, [])]
/-- CustomsDeskModel.in(III)Z -/
def mk_58 : List mg_E := [(0, .iload_n 0, 1, []), (1, .iload_n 1, 1, []), (2, .if_icmp .lt 12, 3, [14]), (5, .iload_n 0, 1, []), (6, .iload_n 2, 1, []), (7, .if_icmp .gt 7, 3, [14]), (10, .iconst 1, 1, []), (11, .goto 4, 3, [15]), (14, .iconst 0, 1, []), (15, .ireturn, 1, [])]
/-- CustomsDeskModel.fails(I)I -/
def mk_59 : List mg_E := [(0, .aload_n 0, 1, []), (1, .iload_n 1, 1, []), (2, .putfield 36, 3, [8, 0, 0, 1200]), (5, .iconst 0, 1, []), (6, .ireturn, 1, [])]
/-- CustomsDeskModel.done(I)I -/
def mk_60 : List mg_E := [(0, .aload_n 0, 1, []), (1, .iconst 0, 1, []), (2, .putfield 36, 3, [8, 0, 0, 1200]), (5, .iload_n 1, 1, []), (6, .ireturn, 1, [])]
/-- CustomsDeskModel.copy([II[II)V -/
def mk_61 : List mg_E := [(0, .iconst 0, 1, []), (1, .istore 4, 2, []), (3, .iload 4, 2, []), (5, .sipush 690, 3, []), (8, .if_icmp .ge 21, 3, [29]), (11, .aload_n 2, 1, []), (12, .iload_n 3, 1, []), (13, .iload 4, 2, []), (15, .iadd, 1, []), (16, .aload_n 0, 1, []), (17, .iload_n 1, 1, []), (18, .iload 4, 2, []), (20, .iadd, 1, []), (21, .iaload, 1, []), (22, .iastore, 1, []), (23, .iinc 4 1, 3, []), (26, .goto (-23), 3, [3]), (29, .return_, 1, [])]
/-- CustomsDeskModel.remembersRow([I)V -/
def mk_62 : List mg_E := [(0, .aload_n 0, 1, []), (1, .getfield 39, 3, [8, 3, 0, 1203]), (4, .bipush 8, 2, []), (6, .if_icmp .ne 44, 3, [50]), (9, .iconst 0, 1, []), (10, .istore_n 2, 1, []), (11, .iload_n 2, 1, []), (12, .sipush 4830, 3, []), (15, .if_icmp .ge 25, 3, [40]), (18, .aload_n 0, 1, []), (19, .getfield 13, 3, [8, 2, 0, 1202]), (22, .iload_n 2, 1, []), (23, .aload_n 0, 1, []), (24, .getfield 13, 3, [8, 2, 0, 1202]), (27, .iload_n 2, 1, []), (28, .sipush 690, 3, []), (31, .iadd, 1, []), (32, .iaload, 1, []), (33, .iastore, 1, []), (34, .iinc 2 1, 3, []), (37, .goto (-26), 3, [11]), (40, .aload_n 0, 1, []), (41, .dup, 1, []), (42, .getfield 39, 3, [8, 3, 0, 1203]), (45, .iconst 1, 1, []), (46, .isub, 1, []), (47, .putfield 39, 3, [8, 3, 0, 1203]), (50, .aload_n 1, 1, []), (51, .iconst 0, 1, []), (52, .aload_n 0, 1, []), (53, .getfield 13, 3, [8, 2, 0, 1202]), (56, .aload_n 0, 1, []), (57, .getfield 39, 3, [8, 3, 0, 1203]), (60, .sipush 690, 3, []), (63, .imul, 1, []), (64, .invokestatic 42, 3, [0, 61, 4, 1284]), (67, .aload_n 0, 1, []), (68, .dup, 1, []), (69, .getfield 39, 3, [8, 3, 0, 1203]), (72, .iconst 1, 1, []), (73, .iadd, 1, []), (74, .putfield 39, 3, [8, 3, 0, 1203]), (77, .return_, 1, [])]
/-- CustomsDeskModel.remembers()V -/
def mk_63 : List mg_E := [(0, .aload_n 0, 1, []), (1, .getfield 46, 3, [8, 7, 0, 1207]), (4, .ifCond .ne 11, 3, [15]), (7, .aload_n 0, 1, []), (8, .aload_n 0, 1, []), (9, .getfield 9, 3, [8, 1, 0, 1201]), (12, .invokevirtual 50, 3, [62, 1, 1280]), (15, .return_, 1, [])]
/-- CustomsDeskModel.isHead(I)Z -/
def mk_64 : List mg_E := [(0, .iload_n 1, 1, []), (1, .iconst 0, 1, []), (2, .aload_n 0, 1, []), (3, .getfield 9, 3, [8, 1, 0, 1201]), (6, .iconst 1, 1, []), (7, .iaload, 1, []), (8, .iconst 1, 1, []), (9, .isub, 1, []), (10, .invokestatic 54, 3, [0, 58, 3, 1261]), (13, .ireturn, 1, [])]
/-- CustomsDeskModel.isCountry(I)Z -/
def mk_65 : List mg_E := [(0, .iload_n 0, 1, []), (1, .iconst 0, 1, []), (2, .bipush 7, 2, []), (4, .invokestatic 54, 3, [0, 58, 3, 1261]), (7, .ireturn, 1, [])]
/-- CustomsDeskModel.headAt(II)I -/
def mk_66 : List mg_E := [(0, .aload_n 0, 1, []), (1, .getfield 9, 3, [8, 1, 0, 1201]), (4, .bipush 20, 2, []), (6, .iconst 3, 1, []), (7, .iload_n 1, 1, []), (8, .imul, 1, []), (9, .iadd, 1, []), (10, .iload_n 2, 1, []), (11, .iadd, 1, []), (12, .iaload, 1, []), (13, .ireturn, 1, [])]
/-- CustomsDeskModel.quotaAt(II)I -/
def mk_67 : List mg_E := [(0, .aload_n 0, 1, []), (1, .getfield 9, 3, [8, 1, 0, 1201]), (4, .sipush 138, 3, []), (7, .bipush 9, 2, []), (9, .iload_n 1, 1, []), (10, .imul, 1, []), (11, .iadd, 1, []), (12, .iload_n 2, 1, []), (13, .iadd, 1, []), (14, .iaload, 1, []), (15, .ireturn, 1, [])]
/-- CustomsDeskModel.declAt(II)I -/
def mk_68 : List mg_E := [(0, .aload_n 0, 1, []), (1, .getfield 9, 3, [8, 1, 0, 1201]), (4, .sipush 208, 3, []), (7, .bipush 16, 2, []), (9, .iload_n 1, 1, []), (10, .imul, 1, []), (11, .iadd, 1, []), (12, .iload_n 2, 1, []), (13, .iadd, 1, []), (14, .iaload, 1, []), (15, .ireturn, 1, [])]
/-- CustomsDeskModel.lengthOf(I)I -/
def mk_69 : List mg_E := [(0, .iconst 0, 1, []), (1, .istore_n 2, 1, []), (2, .iload_n 1, 1, []), (3, .istore_n 3, 1, []), (4, .iload_n 3, 1, []), (5, .iconst (-1), 1, []), (6, .if_icmp .eq 16, 3, [22]), (9, .iinc 2 1, 3, []), (12, .aload_n 0, 1, []), (13, .iload_n 3, 1, []), (14, .iconst 0, 1, []), (15, .invokevirtual 58, 3, [66, 2, 1268]), (18, .istore_n 3, 1, []), (19, .goto (-15), 3, [4]), (22, .iload_n 2, 1, []), (23, .ireturn, 1, [])]
/-- CustomsDeskModel.isUnder(II)Z -/
def mk_70 : List mg_E := [(0, .iload_n 1, 1, []), (1, .istore_n 3, 1, []), (2, .iload_n 3, 1, []), (3, .iconst (-1), 1, []), (4, .if_icmp .eq 18, 3, [22]), (7, .iload_n 3, 1, []), (8, .iload_n 2, 1, []), (9, .if_icmp .eq 13, 3, [22]), (12, .aload_n 0, 1, []), (13, .iload_n 3, 1, []), (14, .iconst 0, 1, []), (15, .invokevirtual 58, 3, [66, 2, 1268]), (18, .istore_n 3, 1, []), (19, .goto (-17), 3, [2]), (22, .iload_n 3, 1, []), (23, .iload_n 2, 1, []), (24, .if_icmp .ne 7, 3, [31]), (27, .iconst 1, 1, []), (28, .goto 4, 3, [32]), (31, .iconst 0, 1, []), (32, .ireturn, 1, [])]
/-- CustomsDeskModel.rateAt(I)I -/
def mk_71 : List mg_E := [(0, .iload_n 1, 1, []), (1, .istore_n 2, 1, []), (2, .iload_n 2, 1, []), (3, .iconst (-1), 1, []), (4, .if_icmp .eq 23, 3, [27]), (7, .aload_n 0, 1, []), (8, .iload_n 2, 1, []), (9, .iconst 2, 1, []), (10, .invokevirtual 58, 3, [66, 2, 1268]), (13, .iconst (-1), 1, []), (14, .if_icmp .ne 13, 3, [27]), (17, .aload_n 0, 1, []), (18, .iload_n 2, 1, []), (19, .iconst 0, 1, []), (20, .invokevirtual 58, 3, [66, 2, 1268]), (23, .istore_n 2, 1, []), (24, .goto (-22), 3, [2]), (27, .iload_n 2, 1, []), (28, .iconst (-1), 1, []), (29, .if_icmp .ne 7, 3, [36]), (32, .iconst 0, 1, []), (33, .goto 9, 3, [42]), (36, .aload_n 0, 1, []), (37, .iload_n 2, 1, []), (38, .iconst 2, 1, []), (39, .invokevirtual 58, 3, [66, 2, 1268]), (42, .ireturn, 1, [])]
/-- CustomsDeskModel.children(I)I -/
def mk_72 : List mg_E := [(0, .iconst 0, 1, []), (1, .istore_n 2, 1, []), (2, .iconst 0, 1, []), (3, .istore_n 3, 1, []), (4, .iload_n 3, 1, []), (5, .aload_n 0, 1, []), (6, .getfield 9, 3, [8, 1, 0, 1201]), (9, .iconst 1, 1, []), (10, .iaload, 1, []), (11, .if_icmp .ge 27, 3, [38]), (14, .iload_n 2, 1, []), (15, .aload_n 0, 1, []), (16, .iload_n 3, 1, []), (17, .iconst 0, 1, []), (18, .invokevirtual 58, 3, [66, 2, 1268]), (21, .iload_n 1, 1, []), (22, .if_icmp .ne 7, 3, [29]), (25, .iconst 1, 1, []), (26, .goto 4, 3, [30]), (29, .iconst 0, 1, []), (30, .iadd, 1, []), (31, .istore_n 2, 1, []), (32, .iinc 3 1, 3, []), (35, .goto (-31), 3, [4]), (38, .iload_n 2, 1, []), (39, .ireturn, 1, [])]
/-- CustomsDeskModel.codeOf(I)I -/
def mk_73 : List mg_E := [(0, .iconst 0, 1, []), (1, .istore_n 2, 1, []), (2, .iconst 1, 1, []), (3, .istore_n 3, 1, []), (4, .iload_n 1, 1, []), (5, .istore 4, 2, []), (7, .iload 4, 2, []), (9, .iconst (-1), 1, []), (10, .if_icmp .eq 32, 3, [42]), (13, .iload_n 2, 1, []), (14, .iload_n 3, 1, []), (15, .aload_n 0, 1, []), (16, .iload 4, 2, []), (18, .iconst 1, 1, []), (19, .invokevirtual 58, 3, [66, 2, 1268]), (22, .imul, 1, []), (23, .iadd, 1, []), (24, .istore_n 2, 1, []), (25, .iload_n 3, 1, []), (26, .bipush 10, 2, []), (28, .imul, 1, []), (29, .istore_n 3, 1, []), (30, .aload_n 0, 1, []), (31, .iload 4, 2, []), (33, .iconst 0, 1, []), (34, .invokevirtual 58, 3, [66, 2, 1268]), (37, .istore 4, 2, []), (39, .goto (-32), 3, [7]), (42, .iload_n 2, 1, []), (43, .ireturn, 1, [])]
/-- CustomsDeskModel.coded(I)I -/
def mk_74 : List mg_E := [(0, .iconst 0, 1, []), (1, .istore_n 2, 1, []), (2, .iload_n 2, 1, []), (3, .aload_n 0, 1, []), (4, .getfield 9, 3, [8, 1, 0, 1201]), (7, .iconst 1, 1, []), (8, .iaload, 1, []), (9, .if_icmp .ge 20, 3, [29]), (12, .aload_n 0, 1, []), (13, .iload_n 2, 1, []), (14, .invokevirtual 62, 3, [73, 1, 1307]), (17, .iload_n 1, 1, []), (18, .if_icmp .ne 5, 3, [23]), (21, .iload_n 2, 1, []), (22, .ireturn, 1, []), (23, .iinc 2 1, 3, []), (26, .goto (-24), 3, [2]), (29, .iconst (-1), 1, []), (30, .ireturn, 1, [])]
/-- CustomsDeskModel.heading(II)I -/
def mk_75 : List mg_E := [(0, .iload_n 1, 1, []), (1, .iconst (-1), 1, []), (2, .if_icmp .eq 17, 3, [19]), (5, .aload_n 0, 1, []), (6, .iload_n 1, 1, []), (7, .invokevirtual 66, 3, [64, 1, 1257]), (10, .ifCond .ne 9, 3, [19]), (13, .aload_n 0, 1, []), (14, .iconst 1, 1, []), (15, .invokevirtual 70, 3, [59, 1, 1264]), (18, .ireturn, 1, []), (19, .iload_n 2, 1, []), (20, .iconst 1, 1, []), (21, .bipush 9, 2, []), (23, .invokestatic 54, 3, [0, 58, 3, 1261]), (26, .istore_n 3, 1, []), (27, .iconst 0, 1, []), (28, .istore 4, 2, []), (30, .iload 4, 2, []), (32, .aload_n 0, 1, []), (33, .getfield 9, 3, [8, 1, 0, 1201]), (36, .iconst 1, 1, []), (37, .iaload, 1, []), (38, .if_icmp .ge 39, 3, [77]), (41, .iload_n 3, 1, []), (42, .aload_n 0, 1, []), (43, .iload 4, 2, []), (45, .iconst 0, 1, []), (46, .invokevirtual 58, 3, [66, 2, 1268]), (49, .iload_n 1, 1, []), (50, .if_icmp .ne 14, 3, [64]), (53, .aload_n 0, 1, []), (54, .iload 4, 2, []), (56, .iconst 1, 1, []), (57, .invokevirtual 58, 3, [66, 2, 1268]), (60, .iload_n 2, 1, []), (61, .if_icmp .eq 7, 3, [68]), (64, .iconst 1, 1, []), (65, .goto 4, 3, [69]), (68, .iconst 0, 1, []), (69, .iand, 1, []), (70, .istore_n 3, 1, []), (71, .iinc 4 1, 3, []), (74, .goto (-44), 3, [30]), (77, .iload_n 3, 1, []), (78, .ifCond .ne 9, 3, [87]), (81, .aload_n 0, 1, []), (82, .iconst 2, 1, []), (83, .invokevirtual 70, 3, [59, 1, 1264]), (86, .ireturn, 1, []), (87, .aload_n 0, 1, []), (88, .getfield 9, 3, [8, 1, 0, 1201]), (91, .iconst 1, 1, []), (92, .iaload, 1, []), (93, .bipush 20, 2, []), (95, .if_icmp .eq 12, 3, [107]), (98, .aload_n 0, 1, []), (99, .iload_n 1, 1, []), (100, .invokevirtual 73, 3, [69, 1, 1272]), (103, .iconst 4, 1, []), (104, .if_icmp .ne 9, 3, [113]), (107, .aload_n 0, 1, []), (108, .iconst 3, 1, []), (109, .invokevirtual 70, 3, [59, 1, 1264]), (112, .ireturn, 1, []), (113, .aload_n 0, 1, []), (114, .invokevirtual 76, 3, [63, 0, 1276]), (117, .bipush 20, 2, []), (119, .iconst 3, 1, []), (120, .aload_n 0, 1, []), (121, .getfield 9, 3, [8, 1, 0, 1201]), (124, .iconst 1, 1, []), (125, .iaload, 1, []), (126, .imul, 1, []), (127, .iadd, 1, []), (128, .istore 4, 2, []), (130, .aload_n 0, 1, []), (131, .getfield 9, 3, [8, 1, 0, 1201]), (134, .iload 4, 2, []), (136, .iload_n 1, 1, []), (137, .iastore, 1, []), (138, .aload_n 0, 1, []), (139, .getfield 9, 3, [8, 1, 0, 1201]), (142, .iload 4, 2, []), (144, .iconst 1, 1, []), (145, .iadd, 1, []), (146, .iload_n 2, 1, []), (147, .iastore, 1, []), (148, .aload_n 0, 1, []), (149, .getfield 9, 3, [8, 1, 0, 1201]), (152, .iload 4, 2, []), (154, .iconst 2, 1, []), (155, .iadd, 1, []), (156, .iconst (-1), 1, []), (157, .iastore, 1, []), (158, .aload_n 0, 1, []), (159, .getfield 9, 3, [8, 1, 0, 1201]), (162, .iconst 1, 1, []), (163, .dup2, 1, []), (164, .iaload, 1, []), (165, .iconst 1, 1, []), (166, .iadd, 1, []), (167, .iastore, 1, []), (168, .aload_n 0, 1, []), (169, .aload_n 0, 1, []), (170, .getfield 9, 3, [8, 1, 0, 1201]), (173, .iconst 1, 1, []), (174, .iaload, 1, []), (175, .iconst 1, 1, []), (176, .isub, 1, []), (177, .invokevirtual 79, 3, [60, 1, 1287]), (180, .ireturn, 1, [])]
/-- CustomsDeskModel.rate(II)I -/
def mk_76 : List mg_E := [(0, .aload_n 0, 1, []), (1, .iload_n 1, 1, []), (2, .invokevirtual 66, 3, [64, 1, 1257]), (5, .ifCond .ne 9, 3, [14]), (8, .aload_n 0, 1, []), (9, .iconst 1, 1, []), (10, .invokevirtual 70, 3, [59, 1, 1264]), (13, .ireturn, 1, []), (14, .iload_n 2, 1, []), (15, .iconst (-1), 1, []), (16, .sipush 1000, 3, []), (19, .invokestatic 54, 3, [0, 58, 3, 1261]), (22, .ifCond .ne 9, 3, [31]), (25, .aload_n 0, 1, []), (26, .iconst 2, 1, []), (27, .invokevirtual 70, 3, [59, 1, 1264]), (30, .ireturn, 1, []), (31, .aload_n 0, 1, []), (32, .invokevirtual 76, 3, [63, 0, 1276]), (35, .aload_n 0, 1, []), (36, .iload_n 1, 1, []), (37, .iconst 2, 1, []), (38, .invokevirtual 58, 3, [66, 2, 1268]), (41, .istore_n 3, 1, []), (42, .aload_n 0, 1, []), (43, .getfield 9, 3, [8, 1, 0, 1201]), (46, .bipush 20, 2, []), (48, .iconst 3, 1, []), (49, .iload_n 1, 1, []), (50, .imul, 1, []), (51, .iadd, 1, []), (52, .iconst 2, 1, []), (53, .iadd, 1, []), (54, .iload_n 2, 1, []), (55, .iastore, 1, []), (56, .aload_n 0, 1, []), (57, .iload_n 3, 1, []), (58, .invokevirtual 79, 3, [60, 1, 1287]), (61, .ireturn, 1, [])]
/-- CustomsDeskModel.told(II)I -/
def mk_77 : List mg_E := [(0, .aload_n 0, 1, []), (1, .iload_n 1, 1, []), (2, .invokevirtual 66, 3, [64, 1, 1257]), (5, .ifCond .ne 9, 3, [14]), (8, .aload_n 0, 1, []), (9, .iconst 1, 1, []), (10, .invokevirtual 70, 3, [59, 1, 1264]), (13, .ireturn, 1, []), (14, .iload_n 2, 1, []), (15, .iconst 0, 1, []), (16, .bipush 6, 2, []), (18, .invokestatic 54, 3, [0, 58, 3, 1261]), (21, .ifCond .ne 9, 3, [30]), (24, .aload_n 0, 1, []), (25, .iconst 2, 1, []), (26, .invokevirtual 70, 3, [59, 1, 1264]), (29, .ireturn, 1, []), (30, .iload_n 2, 1, []), (31, .iconst 3, 1, []), (32, .if_icmp .ge 14, 3, [46]), (35, .aload_n 0, 1, []), (36, .aload_n 0, 1, []), (37, .iload_n 1, 1, []), (38, .iload_n 2, 1, []), (39, .invokevirtual 58, 3, [66, 2, 1268]), (42, .invokevirtual 79, 3, [60, 1, 1287]), (45, .ireturn, 1, []), (46, .aload_n 0, 1, []), (47, .iload_n 2, 1, []), (48, .iconst 3, 1, []), (49, .if_icmp .ne 11, 3, [60]), (52, .aload_n 0, 1, []), (53, .iload_n 1, 1, []), (54, .invokevirtual 82, 3, [71, 1, 1299]), (57, .goto 34, 3, [91]), (60, .iload_n 2, 1, []), (61, .iconst 4, 1, []), (62, .if_icmp .ne 11, 3, [73]), (65, .aload_n 0, 1, []), (66, .iload_n 1, 1, []), (67, .invokevirtual 85, 3, [72, 1, 1303]), (70, .goto 21, 3, [91]), (73, .iload_n 2, 1, []), (74, .iconst 5, 1, []), (75, .if_icmp .ne 11, 3, [86]), (78, .aload_n 0, 1, []), (79, .iload_n 1, 1, []), (80, .invokevirtual 73, 3, [69, 1, 1272]), (83, .goto 8, 3, [91]), (86, .aload_n 0, 1, []), (87, .iload_n 1, 1, []), (88, .invokevirtual 62, 3, [73, 1, 1307]), (91, .invokevirtual 79, 3, [60, 1, 1287]), (94, .ireturn, 1, [])]
/-- CustomsDeskModel.find(I)I -/
def mk_78 : List mg_E := [(0, .aload_n 0, 1, []), (1, .iload_n 1, 1, []), (2, .invokevirtual 88, 3, [74, 1, 1315]), (5, .istore_n 2, 1, []), (6, .iload_n 2, 1, []), (7, .iconst (-1), 1, []), (8, .if_icmp .ne 11, 3, [19]), (11, .aload_n 0, 1, []), (12, .iconst 1, 1, []), (13, .invokevirtual 70, 3, [59, 1, 1264]), (16, .goto 8, 3, [24]), (19, .aload_n 0, 1, []), (20, .iload_n 2, 1, []), (21, .invokevirtual 79, 3, [60, 1, 1287]), (24, .ireturn, 1, [])]
/-- CustomsDeskModel.prefer(IIII)I -/
def mk_79 : List mg_E := [(0, .aload_n 0, 1, []), (1, .iload_n 1, 1, []), (2, .invokevirtual 66, 3, [64, 1, 1257]), (5, .ifCond .eq 10, 3, [15]), (8, .iload_n 2, 1, []), (9, .invokestatic 91, 3, [0, 65, 1, 1323]), (12, .ifCond .ne 9, 3, [21]), (15, .aload_n 0, 1, []), (16, .iconst 1, 1, []), (17, .invokevirtual 70, 3, [59, 1, 1264]), (20, .ireturn, 1, []), (21, .iload_n 3, 1, []), (22, .iconst 0, 1, []), (23, .sipush 1000, 3, []), (26, .invokestatic 54, 3, [0, 58, 3, 1261]), (29, .ifCond .eq 13, 3, [42]), (32, .iload 4, 2, []), (34, .iconst 0, 1, []), (35, .iconst 2, 1, []), (36, .invokestatic 54, 3, [0, 58, 3, 1261]), (39, .ifCond .ne 9, 3, [48]), (42, .aload_n 0, 1, []), (43, .iconst 2, 1, []), (44, .invokevirtual 70, 3, [59, 1, 1264]), (47, .ireturn, 1, []), (48, .aload_n 0, 1, []), (49, .getfield 9, 3, [8, 1, 0, 1201]), (52, .iconst 2, 1, []), (53, .iaload, 1, []), (54, .bipush 10, 2, []), (56, .if_icmp .ne 9, 3, [65]), (59, .aload_n 0, 1, []), (60, .iconst 3, 1, []), (61, .invokevirtual 70, 3, [59, 1, 1264]), (64, .ireturn, 1, []), (65, .aload_n 0, 1, []), (66, .invokevirtual 76, 3, [63, 0, 1276]), (69, .bipush 80, 2, []), (71, .iconst 4, 1, []), (72, .aload_n 0, 1, []), (73, .getfield 9, 3, [8, 1, 0, 1201]), (76, .iconst 2, 1, []), (77, .iaload, 1, []), (78, .imul, 1, []), (79, .iadd, 1, []), (80, .istore 5, 2, []), (82, .aload_n 0, 1, []), (83, .getfield 9, 3, [8, 1, 0, 1201]), (86, .iload 5, 2, []), (88, .iload_n 1, 1, []), (89, .iastore, 1, []), (90, .aload_n 0, 1, []), (91, .getfield 9, 3, [8, 1, 0, 1201]), (94, .iload 5, 2, []), (96, .iconst 1, 1, []), (97, .iadd, 1, []), (98, .iload_n 2, 1, []), (99, .iastore, 1, []), (100, .aload_n 0, 1, []), (101, .getfield 9, 3, [8, 1, 0, 1201]), (104, .iload 5, 2, []), (106, .iconst 2, 1, []), (107, .iadd, 1, []), (108, .iload_n 3, 1, []), (109, .iastore, 1, []), (110, .aload_n 0, 1, []), (111, .getfield 9, 3, [8, 1, 0, 1201]), (114, .iload 5, 2, []), (116, .iconst 3, 1, []), (117, .iadd, 1, []), (118, .iload 4, 2, []), (120, .iastore, 1, []), (121, .aload_n 0, 1, []), (122, .getfield 9, 3, [8, 1, 0, 1201]), (125, .iconst 2, 1, []), (126, .dup2, 1, []), (127, .iaload, 1, []), (128, .iconst 1, 1, []), (129, .iadd, 1, []), (130, .iastore, 1, []), (131, .aload_n 0, 1, []), (132, .aload_n 0, 1, []), (133, .getfield 9, 3, [8, 1, 0, 1201]), (136, .iconst 2, 1, []), (137, .iaload, 1, []), (138, .iconst 1, 1, []), (139, .isub, 1, []), (140, .invokevirtual 79, 3, [60, 1, 1287]), (143, .ireturn, 1, [])]
/-- CustomsDeskModel.drop(I)I -/
def mk_80 : List mg_E := [(0, .iload_n 1, 1, []), (1, .iconst 0, 1, []), (2, .aload_n 0, 1, []), (3, .getfield 9, 3, [8, 1, 0, 1201]), (6, .iconst 2, 1, []), (7, .iaload, 1, []), (8, .iconst 1, 1, []), (9, .isub, 1, []), (10, .invokestatic 54, 3, [0, 58, 3, 1261]), (13, .ifCond .ne 9, 3, [22]), (16, .aload_n 0, 1, []), (17, .iconst 1, 1, []), (18, .invokevirtual 70, 3, [59, 1, 1264]), (21, .ireturn, 1, []), (22, .aload_n 0, 1, []), (23, .invokevirtual 76, 3, [63, 0, 1276]), (26, .bipush 80, 2, []), (28, .iconst 4, 1, []), (29, .iload_n 1, 1, []), (30, .imul, 1, []), (31, .iadd, 1, []), (32, .istore_n 2, 1, []), (33, .iload_n 2, 1, []), (34, .bipush 80, 2, []), (36, .iconst 4, 1, []), (37, .aload_n 0, 1, []), (38, .getfield 9, 3, [8, 1, 0, 1201]), (41, .iconst 2, 1, []), (42, .iaload, 1, []), (43, .iconst 1, 1, []), (44, .isub, 1, []), (45, .imul, 1, []), (46, .iadd, 1, []), (47, .if_icmp .ge 23, 3, [70]), (50, .aload_n 0, 1, []), (51, .getfield 9, 3, [8, 1, 0, 1201]), (54, .iload_n 2, 1, []), (55, .aload_n 0, 1, []), (56, .getfield 9, 3, [8, 1, 0, 1201]), (59, .iload_n 2, 1, []), (60, .iconst 4, 1, []), (61, .iadd, 1, []), (62, .iaload, 1, []), (63, .iastore, 1, []), (64, .iinc 2 1, 3, []), (67, .goto (-34), 3, [33]), (70, .aload_n 0, 1, []), (71, .getfield 9, 3, [8, 1, 0, 1201]), (74, .iconst 2, 1, []), (75, .dup2, 1, []), (76, .iaload, 1, []), (77, .iconst 1, 1, []), (78, .isub, 1, []), (79, .iastore, 1, []), (80, .aload_n 0, 1, []), (81, .aload_n 0, 1, []), (82, .getfield 9, 3, [8, 1, 0, 1201]), (85, .iconst 2, 1, []), (86, .iaload, 1, []), (87, .invokevirtual 79, 3, [60, 1, 1287]), (90, .ireturn, 1, [])]
/-- CustomsDeskModel.suspend(III)I -/
def mk_81 : List mg_E := [(0, .aload_n 0, 1, []), (1, .iload_n 1, 1, []), (2, .invokevirtual 66, 3, [64, 1, 1257]), (5, .ifCond .ne 9, 3, [14]), (8, .aload_n 0, 1, []), (9, .iconst 1, 1, []), (10, .invokevirtual 70, 3, [59, 1, 1264]), (13, .ireturn, 1, []), (14, .iload_n 2, 1, []), (15, .iconst 0, 1, []), (16, .sipush 999, 3, []), (19, .invokestatic 54, 3, [0, 58, 3, 1261]), (22, .ifCond .eq 14, 3, [36]), (25, .iload_n 3, 1, []), (26, .iload_n 2, 1, []), (27, .sipush 999, 3, []), (30, .invokestatic 54, 3, [0, 58, 3, 1261]), (33, .ifCond .ne 9, 3, [42]), (36, .aload_n 0, 1, []), (37, .iconst 2, 1, []), (38, .invokevirtual 70, 3, [59, 1, 1264]), (41, .ireturn, 1, []), (42, .aload_n 0, 1, []), (43, .getfield 9, 3, [8, 1, 0, 1201]), (46, .iconst 3, 1, []), (47, .iaload, 1, []), (48, .bipush 6, 2, []), (50, .if_icmp .ne 9, 3, [59]), (53, .aload_n 0, 1, []), (54, .iconst 3, 1, []), (55, .invokevirtual 70, 3, [59, 1, 1264]), (58, .ireturn, 1, []), (59, .aload_n 0, 1, []), (60, .invokevirtual 76, 3, [63, 0, 1276]), (63, .bipush 120, 2, []), (65, .iconst 3, 1, []), (66, .aload_n 0, 1, []), (67, .getfield 9, 3, [8, 1, 0, 1201]), (70, .iconst 3, 1, []), (71, .iaload, 1, []), (72, .imul, 1, []), (73, .iadd, 1, []), (74, .istore 4, 2, []), (76, .aload_n 0, 1, []), (77, .getfield 9, 3, [8, 1, 0, 1201]), (80, .iload 4, 2, []), (82, .iload_n 1, 1, []), (83, .iastore, 1, []), (84, .aload_n 0, 1, []), (85, .getfield 9, 3, [8, 1, 0, 1201]), (88, .iload 4, 2, []), (90, .iconst 1, 1, []), (91, .iadd, 1, []), (92, .iload_n 2, 1, []), (93, .iastore, 1, []), (94, .aload_n 0, 1, []), (95, .getfield 9, 3, [8, 1, 0, 1201]), (98, .iload 4, 2, []), (100, .iconst 2, 1, []), (101, .iadd, 1, []), (102, .iload_n 3, 1, []), (103, .iastore, 1, []), (104, .aload_n 0, 1, []), (105, .getfield 9, 3, [8, 1, 0, 1201]), (108, .iconst 3, 1, []), (109, .dup2, 1, []), (110, .iaload, 1, []), (111, .iconst 1, 1, []), (112, .iadd, 1, []), (113, .iastore, 1, []), (114, .aload_n 0, 1, []), (115, .aload_n 0, 1, []), (116, .getfield 9, 3, [8, 1, 0, 1201]), (119, .iconst 3, 1, []), (120, .iaload, 1, []), (121, .iconst 1, 1, []), (122, .isub, 1, []), (123, .invokevirtual 79, 3, [60, 1, 1287]), (126, .ireturn, 1, [])]
/-- CustomsDeskModel.quota(IIIII)I -/
def mk_82 : List mg_E := [(0, .aload_n 0, 1, []), (1, .iload_n 1, 1, []), (2, .invokevirtual 66, 3, [64, 1, 1257]), (5, .ifCond .eq 15, 3, [20]), (8, .iload_n 2, 1, []), (9, .iconst (-1), 1, []), (10, .if_icmp .eq 16, 3, [26]), (13, .iload_n 2, 1, []), (14, .invokestatic 91, 3, [0, 65, 1, 1323]), (17, .ifCond .ne 9, 3, [26]), (20, .aload_n 0, 1, []), (21, .iconst 1, 1, []), (22, .invokevirtual 70, 3, [59, 1, 1264]), (25, .ireturn, 1, []), (26, .iload_n 3, 1, []), (27, .iconst 1, 1, []), (28, .sipush 9999, 3, []), (31, .invokestatic 54, 3, [0, 58, 3, 1261]), (34, .ifCond .eq 32, 3, [66]), (37, .iload 4, 2, []), (39, .iconst 0, 1, []), (40, .sipush 1000, 3, []), (43, .invokestatic 54, 3, [0, 58, 3, 1261]), (46, .ifCond .eq 20, 3, [66]), (49, .iload 5, 2, []), (51, .aload_n 0, 1, []), (52, .getfield 9, 3, [8, 1, 0, 1201]), (55, .iconst 0, 1, []), (56, .iaload, 1, []), (57, .sipush 999, 3, []), (60, .invokestatic 54, 3, [0, 58, 3, 1261]), (63, .ifCond .ne 9, 3, [72]), (66, .aload_n 0, 1, []), (67, .iconst 2, 1, []), (68, .invokevirtual 70, 3, [59, 1, 1264]), (71, .ireturn, 1, []), (72, .aload_n 0, 1, []), (73, .getfield 9, 3, [8, 1, 0, 1201]), (76, .iconst 4, 1, []), (77, .iaload, 1, []), (78, .bipush 6, 2, []), (80, .if_icmp .ne 9, 3, [89]), (83, .aload_n 0, 1, []), (84, .iconst 3, 1, []), (85, .invokevirtual 70, 3, [59, 1, 1264]), (88, .ireturn, 1, []), (89, .aload_n 0, 1, []), (90, .invokevirtual 76, 3, [63, 0, 1276]), (93, .sipush 138, 3, []), (96, .bipush 9, 2, []), (98, .aload_n 0, 1, []), (99, .getfield 9, 3, [8, 1, 0, 1201]), (102, .iconst 4, 1, []), (103, .iaload, 1, []), (104, .imul, 1, []), (105, .iadd, 1, []), (106, .istore 6, 2, []), (108, .aload_n 0, 1, []), (109, .getfield 9, 3, [8, 1, 0, 1201]), (112, .iload 6, 2, []), (114, .iconst 0, 1, []), (115, .iadd, 1, []), (116, .iload_n 1, 1, []), (117, .iastore, 1, []), (118, .aload_n 0, 1, []), (119, .getfield 9, 3, [8, 1, 0, 1201]), (122, .iload 6, 2, []), (124, .iconst 1, 1, []), (125, .iadd, 1, []), (126, .iload_n 2, 1, []), (127, .iastore, 1, []), (128, .aload_n 0, 1, []), (129, .getfield 9, 3, [8, 1, 0, 1201]), (132, .iload 6, 2, []), (134, .iconst 2, 1, []), (135, .iadd, 1, []), (136, .iload_n 3, 1, []), (137, .iastore, 1, []), (138, .aload_n 0, 1, []), (139, .getfield 9, 3, [8, 1, 0, 1201]), (142, .iload 6, 2, []), (144, .iconst 3, 1, []), (145, .iadd, 1, []), (146, .iload 4, 2, []), (148, .iastore, 1, []), (149, .aload_n 0, 1, []), (150, .getfield 9, 3, [8, 1, 0, 1201]), (153, .iload 6, 2, []), (155, .iconst 4, 1, []), (156, .iadd, 1, []), (157, .aload_n 0, 1, []), (158, .getfield 9, 3, [8, 1, 0, 1201]), (161, .iconst 0, 1, []), (162, .iaload, 1, []), (163, .iastore, 1, []), (164, .aload_n 0, 1, []), (165, .getfield 9, 3, [8, 1, 0, 1201]), (168, .iload 6, 2, []), (170, .iconst 5, 1, []), (171, .iadd, 1, []), (172, .iload 5, 2, []), (174, .iastore, 1, []), (175, .aload_n 0, 1, []), (176, .getfield 9, 3, [8, 1, 0, 1201]), (179, .iload 6, 2, []), (181, .bipush 6, 2, []), (183, .iadd, 1, []), (184, .iload_n 3, 1, []), (185, .iastore, 1, []), (186, .aload_n 0, 1, []), (187, .getfield 9, 3, [8, 1, 0, 1201]), (190, .iload 6, 2, []), (192, .bipush 7, 2, []), (194, .iadd, 1, []), (195, .iconst 0, 1, []), (196, .iastore, 1, []), (197, .aload_n 0, 1, []), (198, .getfield 9, 3, [8, 1, 0, 1201]), (201, .iconst 4, 1, []), (202, .dup2, 1, []), (203, .iaload, 1, []), (204, .iconst 1, 1, []), (205, .iadd, 1, []), (206, .iastore, 1, []), (207, .aload_n 0, 1, []), (208, .aload_n 0, 1, []), (209, .getfield 9, 3, [8, 1, 0, 1201]), (212, .iconst 4, 1, []), (213, .iaload, 1, []), (214, .iconst 1, 1, []), (215, .isub, 1, []), (216, .invokevirtual 79, 3, [60, 1, 1287]), (219, .ireturn, 1, [])]
/-- CustomsDeskModel.quotaTold(II)I -/
def mk_83 : List mg_E := [(0, .iload_n 1, 1, []), (1, .iconst 0, 1, []), (2, .aload_n 0, 1, []), (3, .getfield 9, 3, [8, 1, 0, 1201]), (6, .iconst 4, 1, []), (7, .iaload, 1, []), (8, .iconst 1, 1, []), (9, .isub, 1, []), (10, .invokestatic 54, 3, [0, 58, 3, 1261]), (13, .ifCond .ne 9, 3, [22]), (16, .aload_n 0, 1, []), (17, .iconst 1, 1, []), (18, .invokevirtual 70, 3, [59, 1, 1264]), (21, .ireturn, 1, []), (22, .iload_n 2, 1, []), (23, .iconst 0, 1, []), (24, .bipush 8, 2, []), (26, .invokestatic 54, 3, [0, 58, 3, 1261]), (29, .ifCond .ne 9, 3, [38]), (32, .aload_n 0, 1, []), (33, .iconst 2, 1, []), (34, .invokevirtual 70, 3, [59, 1, 1264]), (37, .ireturn, 1, []), (38, .iload_n 2, 1, []), (39, .bipush 7, 2, []), (41, .if_icmp .ge 14, 3, [55]), (44, .aload_n 0, 1, []), (45, .aload_n 0, 1, []), (46, .iload_n 1, 1, []), (47, .iload_n 2, 1, []), (48, .invokevirtual 94, 3, [67, 2, 1342]), (51, .invokevirtual 79, 3, [60, 1, 1287]), (54, .ireturn, 1, []), (55, .aload_n 0, 1, []), (56, .iload_n 2, 1, []), (57, .bipush 8, 2, []), (59, .if_icmp .ne 13, 3, [72]), (62, .aload_n 0, 1, []), (63, .iload_n 1, 1, []), (64, .bipush 7, 2, []), (66, .invokevirtual 94, 3, [67, 2, 1342]), (69, .goto 25, 3, [94]), (72, .aload_n 0, 1, []), (73, .iload_n 1, 1, []), (74, .iconst 2, 1, []), (75, .invokevirtual 94, 3, [67, 2, 1342]), (78, .aload_n 0, 1, []), (79, .iload_n 1, 1, []), (80, .bipush 6, 2, []), (82, .invokevirtual 94, 3, [67, 2, 1342]), (85, .isub, 1, []), (86, .aload_n 0, 1, []), (87, .iload_n 1, 1, []), (88, .bipush 7, 2, []), (90, .invokevirtual 94, 3, [67, 2, 1342]), (93, .isub, 1, []), (94, .invokevirtual 79, 3, [60, 1, 1287]), (97, .ireturn, 1, [])]
/-- CustomsDeskModel.set(II)I -/
def mk_84 : List mg_E := [(0, .iload_n 1, 1, []), (1, .ifCond .ne 14, 3, [15]), (4, .iload_n 2, 1, []), (5, .bipush 30, 2, []), (7, .bipush 100, 2, []), (9, .invokestatic 54, 3, [0, 58, 3, 1261]), (12, .goto 38, 3, [50]), (15, .iload_n 1, 1, []), (16, .iconst 1, 1, []), (17, .if_icmp .ne 13, 3, [30]), (20, .iload_n 2, 1, []), (21, .iconst 0, 1, []), (22, .bipush 99, 2, []), (24, .invokestatic 54, 3, [0, 58, 3, 1261]), (27, .goto 23, 3, [50]), (30, .iload_n 1, 1, []), (31, .iconst 2, 1, []), (32, .if_icmp .ne 17, 3, [49]), (35, .iload_n 2, 1, []), (36, .iconst 0, 1, []), (37, .ldc 97, 2, [99999]), (39, .invokestatic 54, 3, [0, 58, 3, 1261]), (42, .ifCond .eq 7, 3, [49]), (45, .iconst 1, 1, []), (46, .goto 4, 3, [50]), (49, .iconst 0, 1, []), (50, .istore_n 3, 1, []), (51, .iload_n 3, 1, []), (52, .ifCond .ne 9, 3, [61]), (55, .aload_n 0, 1, []), (56, .iconst 1, 1, []), (57, .invokevirtual 70, 3, [59, 1, 1264]), (60, .ireturn, 1, []), (61, .aload_n 0, 1, []), (62, .invokevirtual 76, 3, [63, 0, 1276]), (65, .aload_n 0, 1, []), (66, .getfield 9, 3, [8, 1, 0, 1201]), (69, .bipush 10, 2, []), (71, .iload_n 1, 1, []), (72, .iadd, 1, []), (73, .iaload, 1, []), (74, .istore 4, 2, []), (76, .aload_n 0, 1, []), (77, .getfield 9, 3, [8, 1, 0, 1201]), (80, .bipush 10, 2, []), (82, .iload_n 1, 1, []), (83, .iadd, 1, []), (84, .iload_n 2, 1, []), (85, .iastore, 1, []), (86, .aload_n 0, 1, []), (87, .iload 4, 2, []), (89, .invokevirtual 79, 3, [60, 1, 1287]), (92, .ireturn, 1, [])]
/-- CustomsDeskModel.meets(III)Z -/
def mk_85 : List mg_E := [(0, .iload_n 2, 1, []), (1, .ifCond .eq 29, 3, [30]), (4, .iload_n 1, 1, []), (5, .iconst 1, 1, []), (6, .if_icmp .eq 24, 3, [30]), (9, .iload_n 1, 1, []), (10, .iconst 2, 1, []), (11, .if_icmp .ne 23, 3, [34]), (14, .iload_n 2, 1, []), (15, .iconst 2, 1, []), (16, .if_icmp .ne 18, 3, [34]), (19, .iload_n 3, 1, []), (20, .aload_n 0, 1, []), (21, .getfield 9, 3, [8, 1, 0, 1201]), (24, .bipush 12, 2, []), (26, .iaload, 1, []), (27, .if_icmp .gt 7, 3, [34]), (30, .iconst 1, 1, []), (31, .goto 4, 3, [35]), (34, .iconst 0, 1, []), (35, .ireturn, 1, [])]
/-- CustomsDeskModel.isFor(III)Z -/
def mk_86 : List mg_E := [(0, .bipush 80, 2, []), (2, .iconst 4, 1, []), (3, .iload_n 1, 1, []), (4, .imul, 1, []), (5, .iadd, 1, []), (6, .istore 4, 2, []), (8, .aload_n 0, 1, []), (9, .iload_n 2, 1, []), (10, .aload_n 0, 1, []), (11, .getfield 9, 3, [8, 1, 0, 1201]), (14, .iload 4, 2, []), (16, .iaload, 1, []), (17, .invokevirtual 98, 3, [70, 2, 1371]), (20, .ifCond .eq 20, 3, [40]), (23, .aload_n 0, 1, []), (24, .getfield 9, 3, [8, 1, 0, 1201]), (27, .iload 4, 2, []), (29, .iconst 1, 1, []), (30, .iadd, 1, []), (31, .iaload, 1, []), (32, .iload_n 3, 1, []), (33, .if_icmp .ne 7, 3, [40]), (36, .iconst 1, 1, []), (37, .goto 4, 3, [41]), (40, .iconst 0, 1, []), (41, .ireturn, 1, [])]
/-- CustomsDeskModel.isSuspended(II)Z -/
def mk_87 : List mg_E := [(0, .iconst 0, 1, []), (1, .istore_n 3, 1, []), (2, .iconst 0, 1, []), (3, .istore 4, 2, []), (5, .iload 4, 2, []), (7, .aload_n 0, 1, []), (8, .getfield 9, 3, [8, 1, 0, 1201]), (11, .iconst 3, 1, []), (12, .iaload, 1, []), (13, .if_icmp .ge 66, 3, [79]), (16, .bipush 120, 2, []), (18, .iconst 3, 1, []), (19, .iload 4, 2, []), (21, .imul, 1, []), (22, .iadd, 1, []), (23, .istore 5, 2, []), (25, .iload_n 3, 1, []), (26, .aload_n 0, 1, []), (27, .iload_n 1, 1, []), (28, .aload_n 0, 1, []), (29, .getfield 9, 3, [8, 1, 0, 1201]), (32, .iload 5, 2, []), (34, .iaload, 1, []), (35, .invokevirtual 98, 3, [70, 2, 1371]), (38, .ifCond .eq 32, 3, [70]), (41, .iload_n 2, 1, []), (42, .aload_n 0, 1, []), (43, .getfield 9, 3, [8, 1, 0, 1201]), (46, .iload 5, 2, []), (48, .iconst 1, 1, []), (49, .iadd, 1, []), (50, .iaload, 1, []), (51, .aload_n 0, 1, []), (52, .getfield 9, 3, [8, 1, 0, 1201]), (55, .iload 5, 2, []), (57, .iconst 2, 1, []), (58, .iadd, 1, []), (59, .iaload, 1, []), (60, .invokestatic 54, 3, [0, 58, 3, 1261]), (63, .ifCond .eq 7, 3, [70]), (66, .iconst 1, 1, []), (67, .goto 4, 3, [71]), (70, .iconst 0, 1, []), (71, .ior, 1, []), (72, .istore_n 3, 1, []), (73, .iinc 4 1, 3, []), (76, .goto (-71), 3, [5]), (79, .iload_n 3, 1, []), (80, .ireturn, 1, [])]
/-- CustomsDeskModel.preferred(IIII)I -/
def mk_88 : List mg_E := [(0, .sipush 1001, 3, []), (3, .istore 5, 2, []), (5, .iconst 0, 1, []), (6, .istore 6, 2, []), (8, .iload 6, 2, []), (10, .aload_n 0, 1, []), (11, .getfield 9, 3, [8, 1, 0, 1201]), (14, .iconst 2, 1, []), (15, .iaload, 1, []), (16, .if_icmp .ge 96, 3, [112]), (19, .aload_n 0, 1, []), (20, .iload 6, 2, []), (22, .iload_n 1, 1, []), (23, .iload_n 2, 1, []), (24, .invokevirtual 102, 3, [86, 3, 1367]), (27, .ifCond .eq 31, 3, [58]), (30, .aload_n 0, 1, []), (31, .iload 4, 2, []), (33, .aload_n 0, 1, []), (34, .getfield 9, 3, [8, 1, 0, 1201]), (37, .bipush 80, 2, []), (39, .iconst 4, 1, []), (40, .iload 6, 2, []), (42, .imul, 1, []), (43, .iadd, 1, []), (44, .iconst 3, 1, []), (45, .iadd, 1, []), (46, .iaload, 1, []), (47, .iload_n 3, 1, []), (48, .invokevirtual 105, 3, [85, 3, 1375]), (51, .ifCond .eq 7, 3, [58]), (54, .iconst 1, 1, []), (55, .goto 4, 3, [59]), (58, .iconst 0, 1, []), (59, .istore 7, 2, []), (61, .iload 7, 2, []), (63, .ifCond .eq 39, 3, [102]), (66, .aload_n 0, 1, []), (67, .getfield 9, 3, [8, 1, 0, 1201]), (70, .bipush 80, 2, []), (72, .iconst 4, 1, []), (73, .iload 6, 2, []), (75, .imul, 1, []), (76, .iadd, 1, []), (77, .iconst 2, 1, []), (78, .iadd, 1, []), (79, .iaload, 1, []), (80, .iload 5, 2, []), (82, .if_icmp .ge 20, 3, [102]), (85, .aload_n 0, 1, []), (86, .getfield 9, 3, [8, 1, 0, 1201]), (89, .bipush 80, 2, []), (91, .iconst 4, 1, []), (92, .iload 6, 2, []), (94, .imul, 1, []), (95, .iadd, 1, []), (96, .iconst 2, 1, []), (97, .iadd, 1, []), (98, .iaload, 1, []), (99, .goto 5, 3, [104]), (102, .iload 5, 2, []), (104, .istore 5, 2, []), (106, .iinc 6 1, 3, []), (109, .goto (-101), 3, [8]), (112, .iload 5, 2, []), (114, .ireturn, 1, [])]
/-- CustomsDeskModel.goodsRate(IIIII)I -/
def mk_89 : List mg_E := [(0, .aload_n 0, 1, []), (1, .iload_n 1, 1, []), (2, .invokevirtual 82, 3, [71, 1, 1299]), (5, .istore 6, 2, []), (7, .aload_n 0, 1, []), (8, .iload_n 1, 1, []), (9, .iload_n 2, 1, []), (10, .iload_n 3, 1, []), (11, .iload 4, 2, []), (13, .invokevirtual 108, 3, [88, 4, 1363]), (16, .istore 7, 2, []), (18, .aload_n 0, 1, []), (19, .iload_n 1, 1, []), (20, .iload 5, 2, []), (22, .invokevirtual 112, 3, [87, 2, 1379]), (25, .ifCond .eq 7, 3, [32]), (28, .iconst 0, 1, []), (29, .goto 17, 3, [46]), (32, .iload 7, 2, []), (34, .iload 6, 2, []), (36, .if_icmp .ge 8, 3, [44]), (39, .iload 7, 2, []), (41, .goto 5, 3, [46]), (44, .iload 6, 2, []), (46, .ireturn, 1, [])]
/-- CustomsDeskModel.goodsFrom(IIIII)I -/
def mk_90 : List mg_E := [(0, .aload_n 0, 1, []), (1, .iload_n 1, 1, []), (2, .iload_n 2, 1, []), (3, .iload_n 3, 1, []), (4, .iload 4, 2, []), (6, .iload 5, 2, []), (8, .invokevirtual 115, 3, [89, 5, 1359]), (11, .istore 6, 2, []), (13, .aload_n 0, 1, []), (14, .iload_n 1, 1, []), (15, .invokevirtual 82, 3, [71, 1, 1299]), (18, .iload 6, 2, []), (20, .if_icmp .ne 7, 3, [27]), (23, .iconst 0, 1, []), (24, .goto 22, 3, [46]), (27, .aload_n 0, 1, []), (28, .iload_n 1, 1, []), (29, .iload_n 2, 1, []), (30, .iload_n 3, 1, []), (31, .iload 4, 2, []), (33, .invokevirtual 108, 3, [88, 4, 1363]), (36, .iload 6, 2, []), (38, .if_icmp .ne 7, 3, [45]), (41, .iconst 1, 1, []), (42, .goto 4, 3, [46]), (45, .iconst 2, 1, []), (46, .ireturn, 1, [])]
/-- CustomsDeskModel.wrongGoods(IIII)I -/
def mk_91 : List mg_E := [(0, .aload_n 0, 1, []), (1, .iload_n 1, 1, []), (2, .invokevirtual 66, 3, [64, 1, 1257]), (5, .ifCond .eq 10, 3, [15]), (8, .iload_n 2, 1, []), (9, .invokestatic 91, 3, [0, 65, 1, 1323]), (12, .ifCond .ne 5, 3, [17]), (15, .iconst 1, 1, []), (16, .ireturn, 1, []), (17, .iload_n 3, 1, []), (18, .iconst 1, 1, []), (19, .ldc 97, 2, [99999]), (21, .invokestatic 54, 3, [0, 58, 3, 1261]), (24, .ifCond .eq 17, 3, [41]), (27, .iload 4, 2, []), (29, .iconst 0, 1, []), (30, .iconst 2, 1, []), (31, .invokestatic 54, 3, [0, 58, 3, 1261]), (34, .ifCond .eq 7, 3, [41]), (37, .iconst 0, 1, []), (38, .goto 4, 3, [42]), (41, .iconst 2, 1, []), (42, .ireturn, 1, [])]
/-- CustomsDeskModel.rateOf(IIII)I -/
def mk_92 : List mg_E := [(0, .aload_n 0, 1, []), (1, .iload_n 1, 1, []), (2, .iload_n 2, 1, []), (3, .iload_n 3, 1, []), (4, .iload 4, 2, []), (6, .invokevirtual 119, 3, [91, 4, 1355]), (9, .istore 5, 2, []), (11, .iload 5, 2, []), (13, .ifCond .eq 12, 3, [25]), (16, .aload_n 0, 1, []), (17, .iload 5, 2, []), (19, .invokevirtual 70, 3, [59, 1, 1264]), (22, .goto 22, 3, [44]), (25, .aload_n 0, 1, []), (26, .aload_n 0, 1, []), (27, .iload_n 1, 1, []), (28, .iload_n 2, 1, []), (29, .iload_n 3, 1, []), (30, .iload 4, 2, []), (32, .aload_n 0, 1, []), (33, .getfield 9, 3, [8, 1, 0, 1201]), (36, .iconst 0, 1, []), (37, .iaload, 1, []), (38, .invokevirtual 115, 3, [89, 5, 1359]), (41, .invokevirtual 79, 3, [60, 1, 1287]), (44, .ireturn, 1, [])]
/-- CustomsDeskModel.comesFrom(IIII)I -/
def mk_93 : List mg_E := [(0, .aload_n 0, 1, []), (1, .iload_n 1, 1, []), (2, .iload_n 2, 1, []), (3, .iload_n 3, 1, []), (4, .iload 4, 2, []), (6, .invokevirtual 119, 3, [91, 4, 1355]), (9, .istore 5, 2, []), (11, .iload 5, 2, []), (13, .ifCond .eq 12, 3, [25]), (16, .aload_n 0, 1, []), (17, .iload 5, 2, []), (19, .invokevirtual 70, 3, [59, 1, 1264]), (22, .goto 22, 3, [44]), (25, .aload_n 0, 1, []), (26, .aload_n 0, 1, []), (27, .iload_n 1, 1, []), (28, .iload_n 2, 1, []), (29, .iload_n 3, 1, []), (30, .iload 4, 2, []), (32, .aload_n 0, 1, []), (33, .getfield 9, 3, [8, 1, 0, 1201]), (36, .iconst 0, 1, []), (37, .iaload, 1, []), (38, .invokevirtual 122, 3, [90, 5, 1387]), (41, .invokevirtual 79, 3, [60, 1, 1287]), (44, .ireturn, 1, [])]
/-- CustomsDeskModel.missed(IIII)I -/
def mk_94 : List mg_E := [(0, .aload_n 0, 1, []), (1, .iload_n 1, 1, []), (2, .iload_n 2, 1, []), (3, .iload_n 3, 1, []), (4, .iload 4, 2, []), (6, .invokevirtual 119, 3, [91, 4, 1355]), (9, .istore 5, 2, []), (11, .iload 5, 2, []), (13, .ifCond .eq 10, 3, [23]), (16, .aload_n 0, 1, []), (17, .iload 5, 2, []), (19, .invokevirtual 70, 3, [59, 1, 1264]), (22, .ireturn, 1, []), (23, .iconst (-1), 1, []), (24, .istore 6, 2, []), (26, .aload_n 0, 1, []), (27, .iload_n 1, 1, []), (28, .iload_n 2, 1, []), (29, .iload_n 3, 1, []), (30, .iload 4, 2, []), (32, .aload_n 0, 1, []), (33, .getfield 9, 3, [8, 1, 0, 1201]), (36, .iconst 0, 1, []), (37, .iaload, 1, []), (38, .invokevirtual 115, 3, [89, 5, 1359]), (41, .istore 7, 2, []), (43, .iconst 0, 1, []), (44, .istore 8, 2, []), (46, .iload 8, 2, []), (48, .aload_n 0, 1, []), (49, .getfield 9, 3, [8, 1, 0, 1201]), (52, .iconst 2, 1, []), (53, .iaload, 1, []), (54, .if_icmp .ge 95, 3, [149]), (57, .aload_n 0, 1, []), (58, .iload 8, 2, []), (60, .iload_n 1, 1, []), (61, .iload_n 2, 1, []), (62, .invokevirtual 102, 3, [86, 3, 1367]), (65, .ifCond .eq 31, 3, [96]), (68, .aload_n 0, 1, []), (69, .iload 4, 2, []), (71, .aload_n 0, 1, []), (72, .getfield 9, 3, [8, 1, 0, 1201]), (75, .bipush 80, 2, []), (77, .iconst 4, 1, []), (78, .iload 8, 2, []), (80, .imul, 1, []), (81, .iadd, 1, []), (82, .iconst 3, 1, []), (83, .iadd, 1, []), (84, .iaload, 1, []), (85, .iload_n 3, 1, []), (86, .invokevirtual 105, 3, [85, 3, 1375]), (89, .ifCond .ne 7, 3, [96]), (92, .iconst 1, 1, []), (93, .goto 4, 3, [97]), (96, .iconst 0, 1, []), (97, .istore 9, 2, []), (99, .iload 9, 2, []), (101, .ifCond .eq 42, 3, [143]), (104, .aload_n 0, 1, []), (105, .getfield 9, 3, [8, 1, 0, 1201]), (108, .bipush 80, 2, []), (110, .iconst 4, 1, []), (111, .iload 8, 2, []), (113, .imul, 1, []), (114, .iadd, 1, []), (115, .iconst 2, 1, []), (116, .iadd, 1, []), (117, .iaload, 1, []), (118, .iload 7, 2, []), (120, .if_icmp .ge 23, 3, [143]), (123, .iload 8, 2, []), (125, .istore 6, 2, []), (127, .aload_n 0, 1, []), (128, .getfield 9, 3, [8, 1, 0, 1201]), (131, .bipush 80, 2, []), (133, .iconst 4, 1, []), (134, .iload 8, 2, []), (136, .imul, 1, []), (137, .iadd, 1, []), (138, .iconst 2, 1, []), (139, .iadd, 1, []), (140, .iaload, 1, []), (141, .istore 7, 2, []), (143, .iinc 8 1, 3, []), (146, .goto (-100), 3, [46]), (149, .iload 6, 2, []), (151, .iconst (-1), 1, []), (152, .if_icmp .ne 11, 3, [163]), (155, .aload_n 0, 1, []), (156, .iconst 3, 1, []), (157, .invokevirtual 70, 3, [59, 1, 1264]), (160, .goto 9, 3, [169]), (163, .aload_n 0, 1, []), (164, .iload 6, 2, []), (166, .invokevirtual 79, 3, [60, 1, 1287]), (169, .ireturn, 1, [])]
/-- CustomsDeskModel.part(II)I -/
def mk_95 : List mg_E := [(0, .iload_n 1, 1, []), (1, .invokestatic 91, 3, [0, 65, 1, 1323]), (4, .ifCond .ne 9, 3, [13]), (7, .aload_n 0, 1, []), (8, .iconst 1, 1, []), (9, .invokevirtual 70, 3, [59, 1, 1264]), (12, .ireturn, 1, []), (13, .iload_n 2, 1, []), (14, .iconst 1, 1, []), (15, .sipush 9999, 3, []), (18, .invokestatic 54, 3, [0, 58, 3, 1261]), (21, .ifCond .ne 9, 3, [30]), (24, .aload_n 0, 1, []), (25, .iconst 2, 1, []), (26, .invokevirtual 70, 3, [59, 1, 1264]), (29, .ireturn, 1, []), (30, .aload_n 0, 1, []), (31, .getfield 9, 3, [8, 1, 0, 1201]), (34, .bipush 6, 2, []), (36, .iaload, 1, []), (37, .iconst 4, 1, []), (38, .if_icmp .ne 9, 3, [47]), (41, .aload_n 0, 1, []), (42, .iconst 3, 1, []), (43, .invokevirtual 70, 3, [59, 1, 1264]), (46, .ireturn, 1, []), (47, .aload_n 0, 1, []), (48, .invokevirtual 76, 3, [63, 0, 1276]), (51, .aload_n 0, 1, []), (52, .getfield 9, 3, [8, 1, 0, 1201]), (55, .sipush 192, 3, []), (58, .iconst 2, 1, []), (59, .aload_n 0, 1, []), (60, .getfield 9, 3, [8, 1, 0, 1201]), (63, .bipush 6, 2, []), (65, .iaload, 1, []), (66, .imul, 1, []), (67, .iadd, 1, []), (68, .iload_n 1, 1, []), (69, .iastore, 1, []), (70, .aload_n 0, 1, []), (71, .getfield 9, 3, [8, 1, 0, 1201]), (74, .sipush 192, 3, []), (77, .iconst 2, 1, []), (78, .aload_n 0, 1, []), (79, .getfield 9, 3, [8, 1, 0, 1201]), (82, .bipush 6, 2, []), (84, .iaload, 1, []), (85, .imul, 1, []), (86, .iadd, 1, []), (87, .iconst 1, 1, []), (88, .iadd, 1, []), (89, .iload_n 2, 1, []), (90, .iastore, 1, []), (91, .aload_n 0, 1, []), (92, .getfield 9, 3, [8, 1, 0, 1201]), (95, .bipush 6, 2, []), (97, .dup2, 1, []), (98, .iaload, 1, []), (99, .iconst 1, 1, []), (100, .iadd, 1, []), (101, .iastore, 1, []), (102, .aload_n 0, 1, []), (103, .aload_n 0, 1, []), (104, .getfield 9, 3, [8, 1, 0, 1201]), (107, .bipush 6, 2, []), (109, .iaload, 1, []), (110, .invokevirtual 79, 3, [60, 1, 1287]), (113, .ireturn, 1, [])]
/-- CustomsDeskModel.forget()I -/
def mk_96 : List mg_E := [(0, .aload_n 0, 1, []), (1, .invokevirtual 76, 3, [63, 0, 1276]), (4, .aload_n 0, 1, []), (5, .getfield 9, 3, [8, 1, 0, 1201]), (8, .bipush 6, 2, []), (10, .iaload, 1, []), (11, .istore_n 1, 1, []), (12, .aload_n 0, 1, []), (13, .getfield 9, 3, [8, 1, 0, 1201]), (16, .bipush 6, 2, []), (18, .iconst 0, 1, []), (19, .iastore, 1, []), (20, .aload_n 0, 1, []), (21, .iload_n 1, 1, []), (22, .invokevirtual 79, 3, [60, 1, 1287]), (25, .ireturn, 1, [])]
/-- CustomsDeskModel.partsValue()I -/
def mk_97 : List mg_E := [(0, .iconst 0, 1, []), (1, .istore_n 1, 1, []), (2, .iconst 0, 1, []), (3, .istore_n 2, 1, []), (4, .iload_n 2, 1, []), (5, .aload_n 0, 1, []), (6, .getfield 9, 3, [8, 1, 0, 1201]), (9, .bipush 6, 2, []), (11, .iaload, 1, []), (12, .if_icmp .ge 26, 3, [38]), (15, .iload_n 1, 1, []), (16, .aload_n 0, 1, []), (17, .getfield 9, 3, [8, 1, 0, 1201]), (20, .sipush 192, 3, []), (23, .iconst 2, 1, []), (24, .iload_n 2, 1, []), (25, .imul, 1, []), (26, .iadd, 1, []), (27, .iconst 1, 1, []), (28, .iadd, 1, []), (29, .iaload, 1, []), (30, .iadd, 1, []), (31, .istore_n 1, 1, []), (32, .iinc 2 1, 3, []), (35, .goto (-31), 3, [4]), (38, .iload_n 1, 1, []), (39, .ireturn, 1, [])]
/-- CustomsDeskModel.partsOrigin()I -/
def mk_98 : List mg_E := [(0, .iconst (-1), 1, []), (1, .istore_n 1, 1, []), (2, .iconst 0, 1, []), (3, .istore_n 2, 1, []), (4, .iconst 0, 1, []), (5, .istore_n 3, 1, []), (6, .iload_n 3, 1, []), (7, .bipush 8, 2, []), (9, .if_icmp .ge 105, 3, [114]), (12, .iconst 0, 1, []), (13, .istore 4, 2, []), (15, .iconst 0, 1, []), (16, .istore 5, 2, []), (18, .iload 5, 2, []), (20, .aload_n 0, 1, []), (21, .getfield 9, 3, [8, 1, 0, 1201]), (24, .bipush 6, 2, []), (26, .iaload, 1, []), (27, .if_icmp .ge 50, 3, [77]), (30, .iload 4, 2, []), (32, .aload_n 0, 1, []), (33, .getfield 9, 3, [8, 1, 0, 1201]), (36, .sipush 192, 3, []), (39, .iconst 2, 1, []), (40, .iload 5, 2, []), (42, .imul, 1, []), (43, .iadd, 1, []), (44, .iaload, 1, []), (45, .iload_n 3, 1, []), (46, .if_icmp .ne 21, 3, [67]), (49, .aload_n 0, 1, []), (50, .getfield 9, 3, [8, 1, 0, 1201]), (53, .sipush 192, 3, []), (56, .iconst 2, 1, []), (57, .iload 5, 2, []), (59, .imul, 1, []), (60, .iadd, 1, []), (61, .iconst 1, 1, []), (62, .iadd, 1, []), (63, .iaload, 1, []), (64, .goto 4, 3, [68]), (67, .iconst 0, 1, []), (68, .iadd, 1, []), (69, .istore 4, 2, []), (71, .iinc 5 1, 3, []), (74, .goto (-56), 3, [18]), (77, .iload 4, 2, []), (79, .iload_n 2, 1, []), (80, .if_icmp .le 28, 3, [108]), (83, .iload 4, 2, []), (85, .bipush 100, 2, []), (87, .imul, 1, []), (88, .aload_n 0, 1, []), (89, .getfield 9, 3, [8, 1, 0, 1201]), (92, .bipush 10, 2, []), (94, .iaload, 1, []), (95, .aload_n 0, 1, []), (96, .invokevirtual 125, 3, [97, 0, 1411]), (99, .imul, 1, []), (100, .if_icmp .lt 8, 3, [108]), (103, .iload_n 3, 1, []), (104, .istore_n 1, 1, []), (105, .iload 4, 2, []), (107, .istore_n 2, 1, []), (108, .iinc 3 1, 3, []), (111, .goto (-105), 3, [6]), (114, .iload_n 1, 1, []), (115, .iconst (-1), 1, []), (116, .if_icmp .ne 26, 3, [142]), (119, .aload_n 0, 1, []), (120, .getfield 9, 3, [8, 1, 0, 1201]), (123, .sipush 192, 3, []), (126, .iconst 2, 1, []), (127, .aload_n 0, 1, []), (128, .getfield 9, 3, [8, 1, 0, 1201]), (131, .bipush 6, 2, []), (133, .iaload, 1, []), (134, .iconst 1, 1, []), (135, .isub, 1, []), (136, .imul, 1, []), (137, .iadd, 1, []), (138, .iaload, 1, []), (139, .goto 4, 3, [143]), (142, .iload_n 1, 1, []), (143, .ireturn, 1, [])]
/-- CustomsDeskModel.origin()I -/
def mk_99 : List mg_E := [(0, .aload_n 0, 1, []), (1, .getfield 9, 3, [8, 1, 0, 1201]), (4, .bipush 6, 2, []), (6, .iaload, 1, []), (7, .ifCond .ne 11, 3, [18]), (10, .aload_n 0, 1, []), (11, .iconst 1, 1, []), (12, .invokevirtual 70, 3, [59, 1, 1264]), (15, .goto 11, 3, [26]), (18, .aload_n 0, 1, []), (19, .aload_n 0, 1, []), (20, .invokevirtual 129, 3, [98, 0, 1407]), (23, .invokevirtual 79, 3, [60, 1, 1287]), (26, .ireturn, 1, [])]
/-- CustomsDeskModel.declare(IIII)I -/
def mk_100 : List mg_E := [(0, .aload_n 0, 1, []), (1, .iload_n 1, 1, []), (2, .invokevirtual 66, 3, [64, 1, 1257]), (5, .ifCond .eq 26, 3, [31]), (8, .iload 4, 2, []), (10, .iconst (-1), 1, []), (11, .if_icmp .eq 26, 3, [37]), (14, .iload 4, 2, []), (16, .iconst 0, 1, []), (17, .aload_n 0, 1, []), (18, .getfield 9, 3, [8, 1, 0, 1201]), (21, .iconst 4, 1, []), (22, .iaload, 1, []), (23, .iconst 1, 1, []), (24, .isub, 1, []), (25, .invokestatic 54, 3, [0, 58, 3, 1261]), (28, .ifCond .ne 9, 3, [37]), (31, .aload_n 0, 1, []), (32, .iconst 1, 1, []), (33, .invokevirtual 70, 3, [59, 1, 1264]), (36, .ireturn, 1, []), (37, .iload_n 2, 1, []), (38, .iconst 1, 1, []), (39, .sipush 999, 3, []), (42, .invokestatic 54, 3, [0, 58, 3, 1261]), (45, .ifCond .eq 12, 3, [57]), (48, .iload_n 3, 1, []), (49, .iconst 0, 1, []), (50, .iconst 2, 1, []), (51, .invokestatic 54, 3, [0, 58, 3, 1261]), (54, .ifCond .ne 9, 3, [63]), (57, .aload_n 0, 1, []), (58, .iconst 2, 1, []), (59, .invokevirtual 70, 3, [59, 1, 1264]), (62, .ireturn, 1, []), (63, .aload_n 0, 1, []), (64, .iload_n 1, 1, []), (65, .invokevirtual 85, 3, [72, 1, 1303]), (68, .ifCond .gt 24, 3, [92]), (71, .aload_n 0, 1, []), (72, .getfield 9, 3, [8, 1, 0, 1201]), (75, .bipush 6, 2, []), (77, .iaload, 1, []), (78, .ifCond .eq 14, 3, [92]), (81, .aload_n 0, 1, []), (82, .getfield 9, 3, [8, 1, 0, 1201]), (85, .iconst 5, 1, []), (86, .iaload, 1, []), (87, .bipush 30, 2, []), (89, .if_icmp .ne 9, 3, [98]), (92, .aload_n 0, 1, []), (93, .iconst 3, 1, []), (94, .invokevirtual 70, 3, [59, 1, 1264]), (97, .ireturn, 1, []), (98, .aload_n 0, 1, []), (99, .invokevirtual 76, 3, [63, 0, 1276]), (102, .sipush 208, 3, []), (105, .bipush 16, 2, []), (107, .aload_n 0, 1, []), (108, .getfield 9, 3, [8, 1, 0, 1201]), (111, .iconst 5, 1, []), (112, .iaload, 1, []), (113, .imul, 1, []), (114, .iadd, 1, []), (115, .istore 5, 2, []), (117, .iconst 0, 1, []), (118, .istore 6, 2, []), (120, .iload 6, 2, []), (122, .bipush 16, 2, []), (124, .if_icmp .ge 20, 3, [144]), (127, .aload_n 0, 1, []), (128, .getfield 9, 3, [8, 1, 0, 1201]), (131, .iload 5, 2, []), (133, .iload 6, 2, []), (135, .iadd, 1, []), (136, .iconst 0, 1, []), (137, .iastore, 1, []), (138, .iinc 6 1, 3, []), (141, .goto (-21), 3, [120]), (144, .aload_n 0, 1, []), (145, .getfield 9, 3, [8, 1, 0, 1201]), (148, .iload 5, 2, []), (150, .iconst 0, 1, []), (151, .iadd, 1, []), (152, .iload_n 1, 1, []), (153, .iastore, 1, []), (154, .aload_n 0, 1, []), (155, .getfield 9, 3, [8, 1, 0, 1201]), (158, .iload 5, 2, []), (160, .iconst 1, 1, []), (161, .iadd, 1, []), (162, .iload_n 2, 1, []), (163, .iastore, 1, []), (164, .aload_n 0, 1, []), (165, .getfield 9, 3, [8, 1, 0, 1201]), (168, .iload 5, 2, []), (170, .iconst 2, 1, []), (171, .iadd, 1, []), (172, .aload_n 0, 1, []), (173, .invokevirtual 125, 3, [97, 0, 1411]), (176, .iastore, 1, []), (177, .aload_n 0, 1, []), (178, .getfield 9, 3, [8, 1, 0, 1201]), (181, .iload 5, 2, []), (183, .iconst 3, 1, []), (184, .iadd, 1, []), (185, .aload_n 0, 1, []), (186, .invokevirtual 129, 3, [98, 0, 1407]), (189, .iastore, 1, []), (190, .aload_n 0, 1, []), (191, .getfield 9, 3, [8, 1, 0, 1201]), (194, .iload 5, 2, []), (196, .iconst 4, 1, []), (197, .iadd, 1, []), (198, .iload_n 3, 1, []), (199, .iastore, 1, []), (200, .aload_n 0, 1, []), (201, .getfield 9, 3, [8, 1, 0, 1201]), (204, .iload 5, 2, []), (206, .iconst 5, 1, []), (207, .iadd, 1, []), (208, .iload 4, 2, []), (210, .iastore, 1, []), (211, .aload_n 0, 1, []), (212, .getfield 9, 3, [8, 1, 0, 1201]), (215, .iload 5, 2, []), (217, .bipush 6, 2, []), (219, .iadd, 1, []), (220, .aload_n 0, 1, []), (221, .getfield 9, 3, [8, 1, 0, 1201]), (224, .iconst 0, 1, []), (225, .iaload, 1, []), (226, .iastore, 1, []), (227, .aload_n 0, 1, []), (228, .getfield 9, 3, [8, 1, 0, 1201]), (231, .iload 5, 2, []), (233, .bipush 12, 2, []), (235, .iadd, 1, []), (236, .iconst (-1), 1, []), (237, .iastore, 1, []), (238, .aload_n 0, 1, []), (239, .getfield 9, 3, [8, 1, 0, 1201]), (242, .iload 5, 2, []), (244, .bipush 13, 2, []), (246, .iadd, 1, []), (247, .iconst (-1), 1, []), (248, .iastore, 1, []), (249, .aload_n 0, 1, []), (250, .getfield 9, 3, [8, 1, 0, 1201]), (253, .iload 5, 2, []), (255, .bipush 14, 2, []), (257, .iadd, 1, []), (258, .iconst (-1), 1, []), (259, .iastore, 1, []), (260, .aload_n 0, 1, []), (261, .getfield 9, 3, [8, 1, 0, 1201]), (264, .bipush 6, 2, []), (266, .iconst 0, 1, []), (267, .iastore, 1, []), (268, .aload_n 0, 1, []), (269, .getfield 9, 3, [8, 1, 0, 1201]), (272, .iconst 5, 1, []), (273, .dup2, 1, []), (274, .iaload, 1, []), (275, .iconst 1, 1, []), (276, .iadd, 1, []), (277, .iastore, 1, []), (278, .aload_n 0, 1, []), (279, .aload_n 0, 1, []), (280, .getfield 9, 3, [8, 1, 0, 1201]), (283, .iconst 5, 1, []), (284, .iaload, 1, []), (285, .iconst 1, 1, []), (286, .isub, 1, []), (287, .invokevirtual 79, 3, [60, 1, 1287]), (290, .ireturn, 1, [])]
/-- CustomsDeskModel.isDecl(I)Z -/
def mk_101 : List mg_E := [(0, .iload_n 1, 1, []), (1, .iconst 0, 1, []), (2, .aload_n 0, 1, []), (3, .getfield 9, 3, [8, 1, 0, 1201]), (6, .iconst 5, 1, []), (7, .iaload, 1, []), (8, .iconst 1, 1, []), (9, .isub, 1, []), (10, .invokestatic 54, 3, [0, 58, 3, 1261]), (13, .ireturn, 1, [])]
/-- CustomsDeskModel.declaration(II)I -/
def mk_102 : List mg_E := [(0, .aload_n 0, 1, []), (1, .iload_n 1, 1, []), (2, .invokevirtual 132, 3, [101, 1, 1423]), (5, .ifCond .ne 9, 3, [14]), (8, .aload_n 0, 1, []), (9, .iconst 1, 1, []), (10, .invokevirtual 70, 3, [59, 1, 1264]), (13, .ireturn, 1, []), (14, .iload_n 2, 1, []), (15, .iconst 0, 1, []), (16, .bipush 14, 2, []), (18, .invokestatic 54, 3, [0, 58, 3, 1261]), (21, .ifCond .eq 16, 3, [37]), (24, .aload_n 0, 1, []), (25, .aload_n 0, 1, []), (26, .iload_n 1, 1, []), (27, .iload_n 2, 1, []), (28, .invokevirtual 135, 3, [68, 2, 1427]), (31, .invokevirtual 79, 3, [60, 1, 1287]), (34, .goto 8, 3, [42]), (37, .aload_n 0, 1, []), (38, .iconst 2, 1, []), (39, .invokevirtual 70, 3, [59, 1, 1264]), (42, .ireturn, 1, [])]
/-- CustomsDeskModel.rateNow(I)I -/
def mk_103 : List mg_E := [(0, .aload_n 0, 1, []), (1, .aload_n 0, 1, []), (2, .iload_n 1, 1, []), (3, .iconst 0, 1, []), (4, .invokevirtual 135, 3, [68, 2, 1427]), (7, .aload_n 0, 1, []), (8, .iload_n 1, 1, []), (9, .iconst 3, 1, []), (10, .invokevirtual 135, 3, [68, 2, 1427]), (13, .aload_n 0, 1, []), (14, .iload_n 1, 1, []), (15, .iconst 2, 1, []), (16, .invokevirtual 135, 3, [68, 2, 1427]), (19, .aload_n 0, 1, []), (20, .iload_n 1, 1, []), (21, .iconst 4, 1, []), (22, .invokevirtual 135, 3, [68, 2, 1427]), (25, .aload_n 0, 1, []), (26, .iload_n 1, 1, []), (27, .bipush 6, 2, []), (29, .invokevirtual 135, 3, [68, 2, 1427]), (32, .invokevirtual 115, 3, [89, 5, 1359]), (35, .ireturn, 1, [])]
/-- CustomsDeskModel.fromNow(I)I -/
def mk_104 : List mg_E := [(0, .aload_n 0, 1, []), (1, .aload_n 0, 1, []), (2, .iload_n 1, 1, []), (3, .iconst 0, 1, []), (4, .invokevirtual 135, 3, [68, 2, 1427]), (7, .aload_n 0, 1, []), (8, .iload_n 1, 1, []), (9, .iconst 3, 1, []), (10, .invokevirtual 135, 3, [68, 2, 1427]), (13, .aload_n 0, 1, []), (14, .iload_n 1, 1, []), (15, .iconst 2, 1, []), (16, .invokevirtual 135, 3, [68, 2, 1427]), (19, .aload_n 0, 1, []), (20, .iload_n 1, 1, []), (21, .iconst 4, 1, []), (22, .invokevirtual 135, 3, [68, 2, 1427]), (25, .aload_n 0, 1, []), (26, .iload_n 1, 1, []), (27, .bipush 6, 2, []), (29, .invokevirtual 135, 3, [68, 2, 1427]), (32, .invokevirtual 122, 3, [90, 5, 1387]), (35, .ireturn, 1, [])]
/-- CustomsDeskModel.claims(II)I -/
def mk_105 : List mg_E := [(0, .aload_n 0, 1, []), (1, .iload_n 1, 1, []), (2, .iconst 5, 1, []), (3, .invokevirtual 135, 3, [68, 2, 1427]), (6, .istore_n 3, 1, []), (7, .aload_n 0, 1, []), (8, .aload_n 0, 1, []), (9, .iload_n 1, 1, []), (10, .iconst 0, 1, []), (11, .invokevirtual 135, 3, [68, 2, 1427]), (14, .aload_n 0, 1, []), (15, .iload_n 3, 1, []), (16, .iconst 0, 1, []), (17, .invokevirtual 94, 3, [67, 2, 1342]), (20, .invokevirtual 98, 3, [70, 2, 1371]), (23, .ifCond .ne 5, 3, [28]), (26, .iconst 1, 1, []), (27, .ireturn, 1, []), (28, .aload_n 0, 1, []), (29, .iload_n 3, 1, []), (30, .iconst 1, 1, []), (31, .invokevirtual 94, 3, [67, 2, 1342]), (34, .iconst (-1), 1, []), (35, .if_icmp .eq 20, 3, [55]), (38, .aload_n 0, 1, []), (39, .iload_n 3, 1, []), (40, .iconst 1, 1, []), (41, .invokevirtual 94, 3, [67, 2, 1342]), (44, .aload_n 0, 1, []), (45, .iload_n 1, 1, []), (46, .iconst 3, 1, []), (47, .invokevirtual 135, 3, [68, 2, 1427]), (50, .if_icmp .eq 5, 3, [55]), (53, .iconst 2, 1, []), (54, .ireturn, 1, []), (55, .aload_n 0, 1, []), (56, .iload_n 1, 1, []), (57, .bipush 6, 2, []), (59, .invokevirtual 135, 3, [68, 2, 1427]), (62, .aload_n 0, 1, []), (63, .iload_n 3, 1, []), (64, .iconst 4, 1, []), (65, .invokevirtual 94, 3, [67, 2, 1342]), (68, .aload_n 0, 1, []), (69, .iload_n 3, 1, []), (70, .iconst 5, 1, []), (71, .invokevirtual 94, 3, [67, 2, 1342]), (74, .invokestatic 54, 3, [0, 58, 3, 1261]), (77, .ifCond .ne 5, 3, [82]), (80, .iconst 3, 1, []), (81, .ireturn, 1, []), (82, .aload_n 0, 1, []), (83, .iload_n 3, 1, []), (84, .iconst 3, 1, []), (85, .invokevirtual 94, 3, [67, 2, 1342]), (88, .aload_n 0, 1, []), (89, .iload_n 1, 1, []), (90, .invokevirtual 138, 3, [103, 1, 1439]), (93, .if_icmp .lt 7, 3, [100]), (96, .iconst 4, 1, []), (97, .goto 12, 3, [109]), (100, .iload_n 2, 1, []), (101, .ifCond .ne 7, 3, [108]), (104, .iconst 5, 1, []), (105, .goto 4, 3, [109]), (108, .iconst 0, 1, []), (109, .ireturn, 1, [])]
/-- CustomsDeskModel.claim(I)I -/
def mk_106 : List mg_E := [(0, .aload_n 0, 1, []), (1, .iload_n 1, 1, []), (2, .invokevirtual 132, 3, [101, 1, 1423]), (5, .ifCond .ne 9, 3, [14]), (8, .aload_n 0, 1, []), (9, .iconst 1, 1, []), (10, .invokevirtual 70, 3, [59, 1, 1264]), (13, .ireturn, 1, []), (14, .aload_n 0, 1, []), (15, .iload_n 1, 1, []), (16, .iconst 5, 1, []), (17, .invokevirtual 135, 3, [68, 2, 1427]), (20, .istore_n 2, 1, []), (21, .aload_n 0, 1, []), (22, .iload_n 1, 1, []), (23, .bipush 7, 2, []), (25, .invokevirtual 135, 3, [68, 2, 1427]), (28, .ifCond .ne 8, 3, [36]), (31, .iload_n 2, 1, []), (32, .iconst (-1), 1, []), (33, .if_icmp .ne 11, 3, [44]), (36, .aload_n 0, 1, []), (37, .iconst 2, 1, []), (38, .invokevirtual 70, 3, [59, 1, 1264]), (41, .goto 19, 3, [60]), (44, .aload_n 0, 1, []), (45, .aload_n 0, 1, []), (46, .iload_n 1, 1, []), (47, .aload_n 0, 1, []), (48, .iload_n 2, 1, []), (49, .bipush 6, 2, []), (51, .invokevirtual 94, 3, [67, 2, 1342]), (54, .invokevirtual 141, 3, [105, 2, 1435]), (57, .invokevirtual 79, 3, [60, 1, 1287]), (60, .ireturn, 1, [])]
/-- CustomsDeskModel.isGood(II)Z -/
def mk_107 : List mg_E := [(0, .aload_n 0, 1, []), (1, .iload_n 1, 1, []), (2, .bipush 7, 2, []), (4, .invokevirtual 135, 3, [68, 2, 1427]), (7, .ifCond .ne 32, 3, [39]), (10, .aload_n 0, 1, []), (11, .iload_n 1, 1, []), (12, .iconst 5, 1, []), (13, .invokevirtual 135, 3, [68, 2, 1427]), (16, .iload_n 2, 1, []), (17, .if_icmp .ne 22, 3, [39]), (20, .aload_n 0, 1, []), (21, .iload_n 1, 1, []), (22, .aload_n 0, 1, []), (23, .iload_n 2, 1, []), (24, .bipush 6, 2, []), (26, .invokevirtual 94, 3, [67, 2, 1342]), (29, .invokevirtual 141, 3, [105, 2, 1435]), (32, .ifCond .ne 7, 3, [39]), (35, .iconst 1, 1, []), (36, .goto 4, 3, [40]), (39, .iconst 0, 1, []), (40, .ireturn, 1, [])]
/-- CustomsDeskModel.serves(I)I -/
def mk_108 : List mg_E := [(0, .aload_n 0, 1, []), (1, .iload_n 1, 1, []), (2, .bipush 6, 2, []), (4, .invokevirtual 94, 3, [67, 2, 1342]), (7, .istore_n 2, 1, []), (8, .iconst 0, 1, []), (9, .istore_n 3, 1, []), (10, .iconst 0, 1, []), (11, .istore 4, 2, []), (13, .iload 4, 2, []), (15, .aload_n 0, 1, []), (16, .getfield 9, 3, [8, 1, 0, 1201]), (19, .iconst 5, 1, []), (20, .iaload, 1, []), (21, .if_icmp .ge 33, 3, [54]), (24, .iload_n 3, 1, []), (25, .aload_n 0, 1, []), (26, .iload 4, 2, []), (28, .iload_n 1, 1, []), (29, .invokevirtual 144, 3, [107, 2, 1451]), (32, .ifCond .eq 13, 3, [45]), (35, .aload_n 0, 1, []), (36, .iload 4, 2, []), (38, .iconst 1, 1, []), (39, .invokevirtual 135, 3, [68, 2, 1427]), (42, .goto 4, 3, [46]), (45, .iconst 0, 1, []), (46, .iadd, 1, []), (47, .istore_n 3, 1, []), (48, .iinc 4 1, 3, []), (51, .goto (-38), 3, [13]), (54, .iload_n 2, 1, []), (55, .istore 4, 2, []), (57, .iconst 0, 1, []), (58, .istore 5, 2, []), (60, .iload 5, 2, []), (62, .aload_n 0, 1, []), (63, .getfield 9, 3, [8, 1, 0, 1201]), (66, .iconst 5, 1, []), (67, .iaload, 1, []), (68, .if_icmp .ge 64, 3, [132]), (71, .aload_n 0, 1, []), (72, .iload 5, 2, []), (74, .iload_n 1, 1, []), (75, .invokevirtual 144, 3, [107, 2, 1451]), (78, .ifCond .eq 48, 3, [126]), (81, .aload_n 0, 1, []), (82, .getfield 30, 3, [8, 12, 0, 1212]), (85, .iload 5, 2, []), (87, .iload_n 3, 1, []), (88, .iload_n 2, 1, []), (89, .if_icmp .gt 13, 3, [102]), (92, .aload_n 0, 1, []), (93, .iload 5, 2, []), (95, .iconst 1, 1, []), (96, .invokevirtual 135, 3, [68, 2, 1427]), (99, .goto 14, 3, [113]), (102, .aload_n 0, 1, []), (103, .iload 5, 2, []), (105, .iconst 1, 1, []), (106, .invokevirtual 135, 3, [68, 2, 1427]), (109, .iload_n 2, 1, []), (110, .imul, 1, []), (111, .iload_n 3, 1, []), (112, .idiv, 1, []), (113, .iastore, 1, []), (114, .iload 4, 2, []), (116, .aload_n 0, 1, []), (117, .getfield 30, 3, [8, 12, 0, 1212]), (120, .iload 5, 2, []), (122, .iaload, 1, []), (123, .isub, 1, []), (124, .istore 4, 2, []), (126, .iinc 5 1, 3, []), (129, .goto (-69), 3, [60]), (132, .iconst 0, 1, []), (133, .istore 5, 2, []), (135, .iload 5, 2, []), (137, .aload_n 0, 1, []), (138, .getfield 9, 3, [8, 1, 0, 1201]), (141, .iconst 5, 1, []), (142, .iaload, 1, []), (143, .if_icmp .ge 43, 3, [186]), (146, .iload_n 3, 1, []), (147, .iload_n 2, 1, []), (148, .if_icmp .le 38, 3, [186]), (151, .aload_n 0, 1, []), (152, .iload 5, 2, []), (154, .iload_n 1, 1, []), (155, .invokevirtual 144, 3, [107, 2, 1451]), (158, .ifCond .eq 22, 3, [180]), (161, .iload 4, 2, []), (163, .ifCond .le 17, 3, [180]), (166, .aload_n 0, 1, []), (167, .getfield 30, 3, [8, 12, 0, 1212]), (170, .iload 5, 2, []), (172, .dup2, 1, []), (173, .iaload, 1, []), (174, .iconst 1, 1, []), (175, .iadd, 1, []), (176, .iastore, 1, []), (177, .iinc 4 (-1), 3, []), (180, .iinc 5 1, 3, []), (183, .goto (-48), 3, [135]), (186, .iload 4, 2, []), (188, .ireturn, 1, [])]
/-- CustomsDeskModel.leftThen(I)I -/
def mk_109 : List mg_E := [(0, .iload_n 1, 1, []), (1, .iconst 0, 1, []), (2, .aload_n 0, 1, []), (3, .getfield 9, 3, [8, 1, 0, 1201]), (6, .iconst 4, 1, []), (7, .iaload, 1, []), (8, .iconst 1, 1, []), (9, .isub, 1, []), (10, .invokestatic 54, 3, [0, 58, 3, 1261]), (13, .ifCond .eq 15, 3, [28]), (16, .aload_n 0, 1, []), (17, .aload_n 0, 1, []), (18, .iload_n 1, 1, []), (19, .invokevirtual 147, 3, [108, 1, 1447]), (22, .invokevirtual 79, 3, [60, 1, 1287]), (25, .goto 8, 3, [33]), (28, .aload_n 0, 1, []), (29, .iconst 1, 1, []), (30, .invokevirtual 70, 3, [59, 1, 1264]), (33, .ireturn, 1, [])]
/-- CustomsDeskModel.inQuota(I)I -/
def mk_110 : List mg_E := [(0, .aload_n 0, 1, []), (1, .iload_n 1, 1, []), (2, .iconst 2, 1, []), (3, .invokevirtual 135, 3, [68, 2, 1427]), (6, .aload_n 0, 1, []), (7, .iload_n 1, 1, []), (8, .bipush 8, 2, []), (10, .invokevirtual 135, 3, [68, 2, 1427]), (13, .imul, 1, []), (14, .aload_n 0, 1, []), (15, .iload_n 1, 1, []), (16, .iconst 1, 1, []), (17, .invokevirtual 135, 3, [68, 2, 1427]), (20, .idiv, 1, []), (21, .ireturn, 1, [])]
/-- CustomsDeskModel.settles(I)V -/
def mk_111 : List mg_E := [(0, .sipush 208, 3, []), (3, .bipush 16, 2, []), (5, .iload_n 1, 1, []), (6, .imul, 1, []), (7, .iadd, 1, []), (8, .istore_n 2, 1, []), (9, .aload_n 0, 1, []), (10, .iload_n 1, 1, []), (11, .invokevirtual 150, 3, [110, 1, 1467]), (14, .istore_n 3, 1, []), (15, .aload_n 0, 1, []), (16, .getfield 9, 3, [8, 1, 0, 1201]), (19, .iload_n 2, 1, []), (20, .bipush 9, 2, []), (22, .iadd, 1, []), (23, .aload_n 0, 1, []), (24, .iload_n 1, 1, []), (25, .iconst 5, 1, []), (26, .invokevirtual 135, 3, [68, 2, 1427]), (29, .iconst (-1), 1, []), (30, .if_icmp .ne 7, 3, [37]), (33, .iconst 0, 1, []), (34, .goto 20, 3, [54]), (37, .iload_n 3, 1, []), (38, .aload_n 0, 1, []), (39, .aload_n 0, 1, []), (40, .iload_n 1, 1, []), (41, .iconst 5, 1, []), (42, .invokevirtual 135, 3, [68, 2, 1427]), (45, .iconst 3, 1, []), (46, .invokevirtual 94, 3, [67, 2, 1342]), (49, .imul, 1, []), (50, .sipush 1000, 3, []), (53, .idiv, 1, []), (54, .iastore, 1, []), (55, .aload_n 0, 1, []), (56, .getfield 9, 3, [8, 1, 0, 1201]), (59, .iload_n 2, 1, []), (60, .bipush 12, 2, []), (62, .iadd, 1, []), (63, .aload_n 0, 1, []), (64, .iload_n 1, 1, []), (65, .invokevirtual 138, 3, [103, 1, 1439]), (68, .iastore, 1, []), (69, .aload_n 0, 1, []), (70, .getfield 9, 3, [8, 1, 0, 1201]), (73, .iload_n 2, 1, []), (74, .bipush 13, 2, []), (76, .iadd, 1, []), (77, .aload_n 0, 1, []), (78, .iload_n 1, 1, []), (79, .invokevirtual 153, 3, [104, 1, 1471]), (82, .iastore, 1, []), (83, .aload_n 0, 1, []), (84, .getfield 9, 3, [8, 1, 0, 1201]), (87, .iload_n 2, 1, []), (88, .bipush 10, 2, []), (90, .iadd, 1, []), (91, .aload_n 0, 1, []), (92, .iload_n 1, 1, []), (93, .iconst 2, 1, []), (94, .invokevirtual 135, 3, [68, 2, 1427]), (97, .iload_n 3, 1, []), (98, .isub, 1, []), (99, .aload_n 0, 1, []), (100, .iload_n 1, 1, []), (101, .bipush 12, 2, []), (103, .invokevirtual 135, 3, [68, 2, 1427]), (106, .imul, 1, []), (107, .sipush 1000, 3, []), (110, .idiv, 1, []), (111, .iastore, 1, []), (112, .aload_n 0, 1, []), (113, .getfield 9, 3, [8, 1, 0, 1201]), (116, .iload_n 2, 1, []), (117, .bipush 7, 2, []), (119, .iadd, 1, []), (120, .iconst 1, 1, []), (121, .iastore, 1, []), (122, .aload_n 0, 1, []), (123, .iload_n 1, 1, []), (124, .bipush 9, 2, []), (126, .invokevirtual 135, 3, [68, 2, 1427]), (129, .aload_n 0, 1, []), (130, .iload_n 1, 1, []), (131, .bipush 10, 2, []), (133, .invokevirtual 135, 3, [68, 2, 1427]), (136, .iadd, 1, []), (137, .istore 4, 2, []), (139, .aload_n 0, 1, []), (140, .getfield 9, 3, [8, 1, 0, 1201]), (143, .bipush 7, 2, []), (145, .dup2, 1, []), (146, .iaload, 1, []), (147, .iload 4, 2, []), (149, .iadd, 1, []), (150, .iastore, 1, []), (151, .aload_n 0, 1, []), (152, .getfield 9, 3, [8, 1, 0, 1201]), (155, .sipush 200, 3, []), (158, .aload_n 0, 1, []), (159, .iload_n 1, 1, []), (160, .iconst 3, 1, []), (161, .invokevirtual 135, 3, [68, 2, 1427]), (164, .iadd, 1, []), (165, .dup2, 1, []), (166, .iaload, 1, []), (167, .iload 4, 2, []), (169, .iadd, 1, []), (170, .iastore, 1, []), (171, .return_, 1, [])]
/-- CustomsDeskModel.ends()I -/
def mk_112 : List mg_E := [(0, .iconst 0, 1, []), (1, .istore_n 1, 1, []), (2, .iconst 0, 1, []), (3, .istore_n 2, 1, []), (4, .iload_n 2, 1, []), (5, .aload_n 0, 1, []), (6, .getfield 9, 3, [8, 1, 0, 1201]), (9, .iconst 5, 1, []), (10, .iaload, 1, []), (11, .if_icmp .ge 16, 3, [27]), (14, .aload_n 0, 1, []), (15, .getfield 30, 3, [8, 12, 0, 1212]), (18, .iload_n 2, 1, []), (19, .iconst 0, 1, []), (20, .iastore, 1, []), (21, .iinc 2 1, 3, []), (24, .goto (-20), 3, [4]), (27, .iconst 0, 1, []), (28, .istore_n 2, 1, []), (29, .iload_n 2, 1, []), (30, .aload_n 0, 1, []), (31, .getfield 9, 3, [8, 1, 0, 1201]), (34, .iconst 4, 1, []), (35, .iaload, 1, []), (36, .if_icmp .ge 104, 3, [140]), (39, .aload_n 0, 1, []), (40, .iload_n 2, 1, []), (41, .invokevirtual 147, 3, [108, 1, 1447]), (44, .istore_n 3, 1, []), (45, .iconst 0, 1, []), (46, .istore 4, 2, []), (48, .iload 4, 2, []), (50, .aload_n 0, 1, []), (51, .getfield 9, 3, [8, 1, 0, 1201]), (54, .iconst 5, 1, []), (55, .iaload, 1, []), (56, .if_icmp .ge 61, 3, [117]), (59, .aload_n 0, 1, []), (60, .iload 4, 2, []), (62, .bipush 7, 2, []), (64, .invokevirtual 135, 3, [68, 2, 1427]), (67, .ifCond .ne 44, 3, [111]), (70, .aload_n 0, 1, []), (71, .iload 4, 2, []), (73, .iconst 5, 1, []), (74, .invokevirtual 135, 3, [68, 2, 1427]), (77, .iload_n 2, 1, []), (78, .if_icmp .ne 33, 3, [111]), (81, .aload_n 0, 1, []), (82, .getfield 9, 3, [8, 1, 0, 1201]), (85, .sipush 208, 3, []), (88, .bipush 16, 2, []), (90, .iload 4, 2, []), (92, .imul, 1, []), (93, .iadd, 1, []), (94, .bipush 14, 2, []), (96, .iadd, 1, []), (97, .aload_n 0, 1, []), (98, .iload 4, 2, []), (100, .aload_n 0, 1, []), (101, .iload_n 2, 1, []), (102, .bipush 6, 2, []), (104, .invokevirtual 94, 3, [67, 2, 1342]), (107, .invokevirtual 141, 3, [105, 2, 1435]), (110, .iastore, 1, []), (111, .iinc 4 1, 3, []), (114, .goto (-66), 3, [48]), (117, .aload_n 0, 1, []), (118, .getfield 9, 3, [8, 1, 0, 1201]), (121, .sipush 138, 3, []), (124, .bipush 9, 2, []), (126, .iload_n 2, 1, []), (127, .imul, 1, []), (128, .iadd, 1, []), (129, .bipush 6, 2, []), (131, .iadd, 1, []), (132, .iload_n 3, 1, []), (133, .iastore, 1, []), (134, .iinc 2 1, 3, []), (137, .goto (-108), 3, [29]), (140, .iconst 0, 1, []), (141, .istore_n 2, 1, []), (142, .iload_n 2, 1, []), (143, .aload_n 0, 1, []), (144, .getfield 9, 3, [8, 1, 0, 1201]), (147, .iconst 5, 1, []), (148, .iaload, 1, []), (149, .if_icmp .ge 49, 3, [198]), (152, .aload_n 0, 1, []), (153, .iload_n 2, 1, []), (154, .bipush 7, 2, []), (156, .invokevirtual 135, 3, [68, 2, 1427]), (159, .ifCond .ne 33, 3, [192]), (162, .aload_n 0, 1, []), (163, .getfield 9, 3, [8, 1, 0, 1201]), (166, .sipush 208, 3, []), (169, .bipush 16, 2, []), (171, .iload_n 2, 1, []), (172, .imul, 1, []), (173, .iadd, 1, []), (174, .bipush 8, 2, []), (176, .iadd, 1, []), (177, .aload_n 0, 1, []), (178, .getfield 30, 3, [8, 12, 0, 1212]), (181, .iload_n 2, 1, []), (182, .iaload, 1, []), (183, .iastore, 1, []), (184, .aload_n 0, 1, []), (185, .iload_n 2, 1, []), (186, .invokevirtual 156, 3, [111, 1, 1463]), (189, .iinc 1 1, 3, []), (192, .iinc 2 1, 3, []), (195, .goto (-53), 3, [142]), (198, .iload_n 1, 1, []), (199, .ireturn, 1, [])]
/-- CustomsDeskModel.pass(I)I -/
def mk_113 : List mg_E := [(0, .iload_n 1, 1, []), (1, .iconst 1, 1, []), (2, .bipush 99, 2, []), (4, .invokestatic 54, 3, [0, 58, 3, 1261]), (7, .ifCond .ne 9, 3, [16]), (10, .aload_n 0, 1, []), (11, .iconst 1, 1, []), (12, .invokevirtual 70, 3, [59, 1, 1264]), (15, .ireturn, 1, []), (16, .aload_n 0, 1, []), (17, .getfield 9, 3, [8, 1, 0, 1201]), (20, .iconst 0, 1, []), (21, .iaload, 1, []), (22, .iload_n 1, 1, []), (23, .iadd, 1, []), (24, .sipush 999, 3, []), (27, .if_icmp .le 9, 3, [36]), (30, .aload_n 0, 1, []), (31, .iconst 2, 1, []), (32, .invokevirtual 70, 3, [59, 1, 1264]), (35, .ireturn, 1, []), (36, .aload_n 0, 1, []), (37, .invokevirtual 76, 3, [63, 0, 1276]), (40, .aload_n 0, 1, []), (41, .invokevirtual 160, 3, [112, 0, 1459]), (44, .istore_n 2, 1, []), (45, .aload_n 0, 1, []), (46, .getfield 9, 3, [8, 1, 0, 1201]), (49, .iconst 0, 1, []), (50, .dup2, 1, []), (51, .iaload, 1, []), (52, .iload_n 1, 1, []), (53, .iadd, 1, []), (54, .iastore, 1, []), (55, .aload_n 0, 1, []), (56, .iload_n 2, 1, []), (57, .invokevirtual 79, 3, [60, 1, 1287]), (60, .ireturn, 1, [])]
/-- CustomsDeskModel.hinders(I)I -/
def mk_114 : List mg_E := [(0, .aload_n 0, 1, []), (1, .iload_n 1, 1, []), (2, .bipush 7, 2, []), (4, .invokevirtual 135, 3, [68, 2, 1427]), (7, .iconst 1, 1, []), (8, .if_icmp .eq 19, 3, [27]), (11, .aload_n 0, 1, []), (12, .iload_n 1, 1, []), (13, .bipush 7, 2, []), (15, .invokevirtual 135, 3, [68, 2, 1427]), (18, .ifCond .ne 7, 3, [25]), (21, .iconst 1, 1, []), (22, .goto 4, 3, [26]), (25, .iconst 2, 1, []), (26, .ireturn, 1, []), (27, .aload_n 0, 1, []), (28, .getfield 9, 3, [8, 1, 0, 1201]), (31, .iconst 0, 1, []), (32, .iaload, 1, []), (33, .aload_n 0, 1, []), (34, .iload_n 1, 1, []), (35, .bipush 6, 2, []), (37, .invokevirtual 135, 3, [68, 2, 1427]), (40, .isub, 1, []), (41, .aload_n 0, 1, []), (42, .getfield 9, 3, [8, 1, 0, 1201]), (45, .bipush 11, 2, []), (47, .iaload, 1, []), (48, .if_icmp .le 7, 3, [55]), (51, .iconst 3, 1, []), (52, .goto 4, 3, [56]), (55, .iconst 0, 1, []), (56, .ireturn, 1, [])]
/-- CustomsDeskModel.givesBack(II)I -/
def mk_115 : List mg_E := [(0, .aload_n 0, 1, []), (1, .getfield 9, 3, [8, 1, 0, 1201]), (4, .sipush 208, 3, []), (7, .bipush 16, 2, []), (9, .iload_n 1, 1, []), (10, .imul, 1, []), (11, .iadd, 1, []), (12, .bipush 11, 2, []), (14, .iadd, 1, []), (15, .dup2, 1, []), (16, .iaload, 1, []), (17, .iload_n 2, 1, []), (18, .iadd, 1, []), (19, .iastore, 1, []), (20, .aload_n 0, 1, []), (21, .getfield 9, 3, [8, 1, 0, 1201]), (24, .bipush 8, 2, []), (26, .dup2, 1, []), (27, .iaload, 1, []), (28, .iload_n 2, 1, []), (29, .iadd, 1, []), (30, .iastore, 1, []), (31, .aload_n 0, 1, []), (32, .getfield 9, 3, [8, 1, 0, 1201]), (35, .sipush 200, 3, []), (38, .aload_n 0, 1, []), (39, .iload_n 1, 1, []), (40, .iconst 3, 1, []), (41, .invokevirtual 135, 3, [68, 2, 1427]), (44, .iadd, 1, []), (45, .dup2, 1, []), (46, .iaload, 1, []), (47, .iload_n 2, 1, []), (48, .isub, 1, []), (49, .iastore, 1, []), (50, .iload_n 2, 1, []), (51, .ireturn, 1, [])]
/-- CustomsDeskModel.refund(I)I -/
def mk_116 : List mg_E := [(0, .aload_n 0, 1, []), (1, .iload_n 1, 1, []), (2, .invokevirtual 132, 3, [101, 1, 1423]), (5, .ifCond .ne 9, 3, [14]), (8, .aload_n 0, 1, []), (9, .iconst 1, 1, []), (10, .invokevirtual 70, 3, [59, 1, 1264]), (13, .ireturn, 1, []), (14, .aload_n 0, 1, []), (15, .iload_n 1, 1, []), (16, .invokevirtual 163, 3, [114, 1, 1479]), (19, .istore_n 2, 1, []), (20, .iload_n 2, 1, []), (21, .ifCond .eq 14, 3, [35]), (24, .aload_n 0, 1, []), (25, .iload_n 2, 1, []), (26, .putfield 166, 3, [8, 8, 0, 1208]), (29, .aload_n 0, 1, []), (30, .iconst 2, 1, []), (31, .invokevirtual 70, 3, [59, 1, 1264]), (34, .ireturn, 1, []), (35, .aload_n 0, 1, []), (36, .invokevirtual 76, 3, [63, 0, 1276]), (39, .sipush 208, 3, []), (42, .bipush 16, 2, []), (44, .iload_n 1, 1, []), (45, .imul, 1, []), (46, .iadd, 1, []), (47, .istore_n 3, 1, []), (48, .aload_n 0, 1, []), (49, .iload_n 1, 1, []), (50, .bipush 8, 2, []), (52, .invokevirtual 135, 3, [68, 2, 1427]), (55, .istore 4, 2, []), (57, .aload_n 0, 1, []), (58, .iload_n 1, 1, []), (59, .iconst 5, 1, []), (60, .invokevirtual 135, 3, [68, 2, 1427]), (63, .istore 5, 2, []), (65, .iload 4, 2, []), (67, .ifCond .le 46, 3, [113]), (70, .aload_n 0, 1, []), (71, .getfield 9, 3, [8, 1, 0, 1201]), (74, .sipush 138, 3, []), (77, .bipush 9, 2, []), (79, .iload 5, 2, []), (81, .imul, 1, []), (82, .iadd, 1, []), (83, .aload_n 0, 1, []), (84, .getfield 9, 3, [8, 1, 0, 1201]), (87, .iconst 0, 1, []), (88, .iaload, 1, []), (89, .aload_n 0, 1, []), (90, .iload 5, 2, []), (92, .iconst 5, 1, []), (93, .invokevirtual 94, 3, [67, 2, 1342]), (96, .if_icmp .gt 8, 3, [104]), (99, .bipush 6, 2, []), (101, .goto 5, 3, [106]), (104, .bipush 7, 2, []), (106, .iadd, 1, []), (107, .dup2, 1, []), (108, .iaload, 1, []), (109, .iload 4, 2, []), (111, .iadd, 1, []), (112, .iastore, 1, []), (113, .aload_n 0, 1, []), (114, .getfield 9, 3, [8, 1, 0, 1201]), (117, .iload_n 3, 1, []), (118, .bipush 8, 2, []), (120, .iadd, 1, []), (121, .iconst 0, 1, []), (122, .iastore, 1, []), (123, .aload_n 0, 1, []), (124, .getfield 9, 3, [8, 1, 0, 1201]), (127, .iload_n 3, 1, []), (128, .bipush 7, 2, []), (130, .iadd, 1, []), (131, .iconst 2, 1, []), (132, .iastore, 1, []), (133, .aload_n 0, 1, []), (134, .aload_n 0, 1, []), (135, .iload_n 1, 1, []), (136, .aload_n 0, 1, []), (137, .iload_n 1, 1, []), (138, .bipush 9, 2, []), (140, .invokevirtual 135, 3, [68, 2, 1427]), (143, .aload_n 0, 1, []), (144, .iload_n 1, 1, []), (145, .bipush 10, 2, []), (147, .invokevirtual 135, 3, [68, 2, 1427]), (150, .iadd, 1, []), (151, .invokevirtual 169, 3, [115, 2, 1483]), (154, .invokevirtual 79, 3, [60, 1, 1287]), (157, .ireturn, 1, [])]
/-- CustomsDeskModel.prove(II)I -/
def mk_117 : List mg_E := [(0, .aload_n 0, 1, []), (1, .iload_n 1, 1, []), (2, .invokevirtual 132, 3, [101, 1, 1423]), (5, .ifCond .ne 9, 3, [14]), (8, .aload_n 0, 1, []), (9, .iconst 1, 1, []), (10, .invokevirtual 70, 3, [59, 1, 1264]), (13, .ireturn, 1, []), (14, .iload_n 2, 1, []), (15, .iconst 1, 1, []), (16, .iconst 2, 1, []), (17, .invokestatic 54, 3, [0, 58, 3, 1261]), (20, .ifCond .ne 9, 3, [29]), (23, .aload_n 0, 1, []), (24, .iconst 2, 1, []), (25, .invokevirtual 70, 3, [59, 1, 1264]), (28, .ireturn, 1, []), (29, .aload_n 0, 1, []), (30, .iload_n 1, 1, []), (31, .invokevirtual 163, 3, [114, 1, 1479]), (34, .istore_n 3, 1, []), (35, .iload_n 3, 1, []), (36, .ifCond .eq 14, 3, [50]), (39, .aload_n 0, 1, []), (40, .iload_n 3, 1, []), (41, .putfield 166, 3, [8, 8, 0, 1208]), (44, .aload_n 0, 1, []), (45, .iconst 3, 1, []), (46, .invokevirtual 70, 3, [59, 1, 1264]), (49, .ireturn, 1, []), (50, .aload_n 0, 1, []), (51, .invokevirtual 76, 3, [63, 0, 1276]), (54, .sipush 208, 3, []), (57, .bipush 16, 2, []), (59, .iload_n 1, 1, []), (60, .imul, 1, []), (61, .iadd, 1, []), (62, .istore 4, 2, []), (64, .aload_n 0, 1, []), (65, .getfield 9, 3, [8, 1, 0, 1201]), (68, .iload 4, 2, []), (70, .iconst 4, 1, []), (71, .iadd, 1, []), (72, .iload_n 2, 1, []), (73, .iastore, 1, []), (74, .aload_n 0, 1, []), (75, .iload_n 1, 1, []), (76, .invokevirtual 138, 3, [103, 1, 1439]), (79, .istore 5, 2, []), (81, .aload_n 0, 1, []), (82, .iload_n 1, 1, []), (83, .iconst 2, 1, []), (84, .invokevirtual 135, 3, [68, 2, 1427]), (87, .aload_n 0, 1, []), (88, .iload_n 1, 1, []), (89, .invokevirtual 150, 3, [110, 1, 1467]), (92, .isub, 1, []), (93, .iload 5, 2, []), (95, .imul, 1, []), (96, .sipush 1000, 3, []), (99, .idiv, 1, []), (100, .istore 6, 2, []), (102, .aload_n 0, 1, []), (103, .iload_n 1, 1, []), (104, .bipush 10, 2, []), (106, .invokevirtual 135, 3, [68, 2, 1427]), (109, .iload 6, 2, []), (111, .isub, 1, []), (112, .istore 7, 2, []), (114, .iload 7, 2, []), (116, .ifCond .gt 9, 3, [125]), (119, .aload_n 0, 1, []), (120, .iconst 0, 1, []), (121, .invokevirtual 79, 3, [60, 1, 1287]), (124, .ireturn, 1, []), (125, .aload_n 0, 1, []), (126, .getfield 9, 3, [8, 1, 0, 1201]), (129, .iload 4, 2, []), (131, .bipush 13, 2, []), (133, .iadd, 1, []), (134, .aload_n 0, 1, []), (135, .iload_n 1, 1, []), (136, .invokevirtual 153, 3, [104, 1, 1471]), (139, .iastore, 1, []), (140, .aload_n 0, 1, []), (141, .getfield 9, 3, [8, 1, 0, 1201]), (144, .iload 4, 2, []), (146, .bipush 12, 2, []), (148, .iadd, 1, []), (149, .iload 5, 2, []), (151, .iastore, 1, []), (152, .aload_n 0, 1, []), (153, .getfield 9, 3, [8, 1, 0, 1201]), (156, .iload 4, 2, []), (158, .bipush 10, 2, []), (160, .iadd, 1, []), (161, .iload 6, 2, []), (163, .iastore, 1, []), (164, .aload_n 0, 1, []), (165, .aload_n 0, 1, []), (166, .iload_n 1, 1, []), (167, .iload 7, 2, []), (169, .invokevirtual 169, 3, [115, 2, 1483]), (172, .invokevirtual 79, 3, [60, 1, 1287]), (175, .ireturn, 1, [])]
/-- CustomsDeskModel.refusal()I -/
def mk_118 : List mg_E := [(0, .aload_n 0, 1, []), (1, .getfield 166, 3, [8, 8, 0, 1208]), (4, .ifCond .ne 11, 3, [15]), (7, .aload_n 0, 1, []), (8, .iconst 1, 1, []), (9, .invokevirtual 70, 3, [59, 1, 1264]), (12, .goto 11, 3, [23]), (15, .aload_n 0, 1, []), (16, .aload_n 0, 1, []), (17, .getfield 166, 3, [8, 8, 0, 1208]), (20, .invokevirtual 79, 3, [60, 1, 1287]), (23, .ireturn, 1, [])]
/-- CustomsDeskModel.inState(I)I -/
def mk_119 : List mg_E := [(0, .iconst 0, 1, []), (1, .istore_n 2, 1, []), (2, .iconst 0, 1, []), (3, .istore_n 3, 1, []), (4, .iload_n 3, 1, []), (5, .aload_n 0, 1, []), (6, .getfield 9, 3, [8, 1, 0, 1201]), (9, .iconst 5, 1, []), (10, .iaload, 1, []), (11, .if_icmp .ge 28, 3, [39]), (14, .iload_n 2, 1, []), (15, .aload_n 0, 1, []), (16, .iload_n 3, 1, []), (17, .bipush 7, 2, []), (19, .invokevirtual 135, 3, [68, 2, 1427]), (22, .iload_n 1, 1, []), (23, .if_icmp .ne 7, 3, [30]), (26, .iconst 1, 1, []), (27, .goto 4, 3, [31]), (30, .iconst 0, 1, []), (31, .iadd, 1, []), (32, .istore_n 2, 1, []), (33, .iinc 3 1, 3, []), (36, .goto (-32), 3, [4]), (39, .iload_n 2, 1, []), (40, .ireturn, 1, [])]
/-- CustomsDeskModel.account(I)I -/
def mk_120 : List mg_E := [(0, .iload_n 1, 1, []), (1, .iconst 0, 1, []), (2, .bipush 11, 2, []), (4, .invokestatic 54, 3, [0, 58, 3, 1261]), (7, .ifCond .ne 9, 3, [16]), (10, .aload_n 0, 1, []), (11, .iconst 1, 1, []), (12, .invokevirtual 70, 3, [59, 1, 1264]), (15, .ireturn, 1, []), (16, .iload_n 1, 1, []), (17, .tableswitch 102 5 11 #[43, 43, 43, 55, 67, 79, 90], 43, [119, 60, 60, 60, 72, 84, 96, 107]), (60, .aload_n 0, 1, []), (61, .aload_n 0, 1, []), (62, .iload_n 1, 1, []), (63, .iconst 5, 1, []), (64, .isub, 1, []), (65, .invokevirtual 172, 3, [119, 1, 1499]), (68, .invokevirtual 79, 3, [60, 1, 1287]), (71, .ireturn, 1, []), (72, .aload_n 0, 1, []), (73, .aload_n 0, 1, []), (74, .getfield 9, 3, [8, 1, 0, 1201]), (77, .bipush 7, 2, []), (79, .iaload, 1, []), (80, .invokevirtual 79, 3, [60, 1, 1287]), (83, .ireturn, 1, []), (84, .aload_n 0, 1, []), (85, .aload_n 0, 1, []), (86, .getfield 9, 3, [8, 1, 0, 1201]), (89, .bipush 8, 2, []), (91, .iaload, 1, []), (92, .invokevirtual 79, 3, [60, 1, 1287]), (95, .ireturn, 1, []), (96, .aload_n 0, 1, []), (97, .aload_n 0, 1, []), (98, .getfield 9, 3, [8, 1, 0, 1201]), (101, .iconst 0, 1, []), (102, .iaload, 1, []), (103, .invokevirtual 79, 3, [60, 1, 1287]), (106, .ireturn, 1, []), (107, .aload_n 0, 1, []), (108, .aload_n 0, 1, []), (109, .getfield 9, 3, [8, 1, 0, 1201]), (112, .bipush 6, 2, []), (114, .iaload, 1, []), (115, .invokevirtual 79, 3, [60, 1, 1287]), (118, .ireturn, 1, []), (119, .aload_n 0, 1, []), (120, .aload_n 0, 1, []), (121, .getfield 9, 3, [8, 1, 0, 1201]), (124, .iconst 1, 1, []), (125, .iload_n 1, 1, []), (126, .iadd, 1, []), (127, .iaload, 1, []), (128, .invokevirtual 79, 3, [60, 1, 1287]), (131, .ireturn, 1, [])]
/-- CustomsDeskModel.keptOf(I)I -/
def mk_121 : List mg_E := [(0, .aload_n 0, 1, []), (1, .iload_n 1, 1, []), (2, .bipush 7, 2, []), (4, .invokevirtual 135, 3, [68, 2, 1427]), (7, .iconst 1, 1, []), (8, .if_icmp .ne 21, 3, [29]), (11, .aload_n 0, 1, []), (12, .iload_n 1, 1, []), (13, .bipush 9, 2, []), (15, .invokevirtual 135, 3, [68, 2, 1427]), (18, .aload_n 0, 1, []), (19, .iload_n 1, 1, []), (20, .bipush 10, 2, []), (22, .invokevirtual 135, 3, [68, 2, 1427]), (25, .iadd, 1, []), (26, .goto 4, 3, [30]), (29, .iconst 0, 1, []), (30, .ireturn, 1, [])]
/-- CustomsDeskModel.kept(I)I -/
def mk_122 : List mg_E := [(0, .iload_n 1, 1, []), (1, .invokestatic 91, 3, [0, 65, 1, 1323]), (4, .ifCond .eq 20, 3, [24]), (7, .aload_n 0, 1, []), (8, .aload_n 0, 1, []), (9, .getfield 9, 3, [8, 1, 0, 1201]), (12, .sipush 200, 3, []), (15, .iload_n 1, 1, []), (16, .iadd, 1, []), (17, .iaload, 1, []), (18, .invokevirtual 79, 3, [60, 1, 1287]), (21, .goto 8, 3, [29]), (24, .aload_n 0, 1, []), (25, .iconst 1, 1, []), (26, .invokevirtual 70, 3, [59, 1, 1264]), (29, .ireturn, 1, [])]
/-- CustomsDeskModel.keptAgain(I)I -/
def mk_123 : List mg_E := [(0, .iload_n 1, 1, []), (1, .invokestatic 91, 3, [0, 65, 1, 1323]), (4, .ifCond .ne 9, 3, [13]), (7, .aload_n 0, 1, []), (8, .iconst 1, 1, []), (9, .invokevirtual 70, 3, [59, 1, 1264]), (12, .ireturn, 1, []), (13, .iconst 0, 1, []), (14, .istore_n 2, 1, []), (15, .iconst 0, 1, []), (16, .istore_n 3, 1, []), (17, .iload_n 3, 1, []), (18, .aload_n 0, 1, []), (19, .getfield 9, 3, [8, 1, 0, 1201]), (22, .iconst 5, 1, []), (23, .iaload, 1, []), (24, .if_icmp .ge 31, 3, [55]), (27, .iload_n 2, 1, []), (28, .aload_n 0, 1, []), (29, .iload_n 3, 1, []), (30, .iconst 3, 1, []), (31, .invokevirtual 135, 3, [68, 2, 1427]), (34, .iload_n 1, 1, []), (35, .if_icmp .ne 11, 3, [46]), (38, .aload_n 0, 1, []), (39, .iload_n 3, 1, []), (40, .invokevirtual 175, 3, [121, 1, 1511]), (43, .goto 4, 3, [47]), (46, .iconst 0, 1, []), (47, .iadd, 1, []), (48, .istore_n 2, 1, []), (49, .iinc 3 1, 3, []), (52, .goto (-35), 3, [17]), (55, .aload_n 0, 1, []), (56, .iload_n 2, 1, []), (57, .invokevirtual 79, 3, [60, 1, 1287]), (60, .ireturn, 1, [])]
/-- CustomsDeskModel.keptUnder(I)I -/
def mk_124 : List mg_E := [(0, .aload_n 0, 1, []), (1, .iload_n 1, 1, []), (2, .invokevirtual 66, 3, [64, 1, 1257]), (5, .ifCond .ne 9, 3, [14]), (8, .aload_n 0, 1, []), (9, .iconst 1, 1, []), (10, .invokevirtual 70, 3, [59, 1, 1264]), (13, .ireturn, 1, []), (14, .iconst 0, 1, []), (15, .istore_n 2, 1, []), (16, .iconst 0, 1, []), (17, .istore_n 3, 1, []), (18, .iload_n 3, 1, []), (19, .aload_n 0, 1, []), (20, .getfield 9, 3, [8, 1, 0, 1201]), (23, .iconst 5, 1, []), (24, .iaload, 1, []), (25, .if_icmp .ge 35, 3, [60]), (28, .iload_n 2, 1, []), (29, .aload_n 0, 1, []), (30, .aload_n 0, 1, []), (31, .iload_n 3, 1, []), (32, .iconst 0, 1, []), (33, .invokevirtual 135, 3, [68, 2, 1427]), (36, .iload_n 1, 1, []), (37, .invokevirtual 98, 3, [70, 2, 1371]), (40, .ifCond .eq 11, 3, [51]), (43, .aload_n 0, 1, []), (44, .iload_n 3, 1, []), (45, .invokevirtual 175, 3, [121, 1, 1511]), (48, .goto 4, 3, [52]), (51, .iconst 0, 1, []), (52, .iadd, 1, []), (53, .istore_n 2, 1, []), (54, .iinc 3 1, 3, []), (57, .goto (-39), 3, [18]), (60, .aload_n 0, 1, []), (61, .iload_n 2, 1, []), (62, .invokevirtual 79, 3, [60, 1, 1287]), (65, .ireturn, 1, [])]
/-- CustomsDeskModel.givenBack()D -/
def mk_125 : List mg_E := [(0, .aload_n 0, 1, []), (1, .getfield 9, 3, [8, 1, 0, 1201]), (4, .bipush 7, 2, []), (6, .iaload, 1, []), (7, .ifCond .ne 10, 3, [17]), (10, .aload_n 0, 1, []), (11, .iconst 1, 1, []), (12, .putfield 36, 3, [8, 0, 0, 1200]), (15, .dconst 0, 1, []), (16, .dreturn, 1, []), (17, .aload_n 0, 1, []), (18, .iconst 0, 1, []), (19, .putfield 36, 3, [8, 0, 0, 1200]), (22, .aload_n 0, 1, []), (23, .getfield 9, 3, [8, 1, 0, 1201]), (26, .bipush 8, 2, []), (28, .iaload, 1, []), (29, .i2d, 1, []), (30, .aload_n 0, 1, []), (31, .getfield 9, 3, [8, 1, 0, 1201]), (34, .bipush 7, 2, []), (36, .iaload, 1, []), (37, .i2d, 1, []), (38, .ddiv, 1, []), (39, .dreturn, 1, [])]
/-- CustomsDeskModel.meanRate()F -/
def mk_126 : List mg_E := [(0, .iconst 0, 1, []), (1, .istore_n 1, 1, []), (2, .iconst 0, 1, []), (3, .istore_n 2, 1, []), (4, .iload_n 2, 1, []), (5, .aload_n 0, 1, []), (6, .getfield 9, 3, [8, 1, 0, 1201]), (9, .iconst 5, 1, []), (10, .iaload, 1, []), (11, .if_icmp .ge 32, 3, [43]), (14, .iload_n 1, 1, []), (15, .aload_n 0, 1, []), (16, .iload_n 2, 1, []), (17, .bipush 7, 2, []), (19, .invokevirtual 135, 3, [68, 2, 1427]), (22, .ifCond .ne 7, 3, [29]), (25, .iconst 0, 1, []), (26, .goto 9, 3, [35]), (29, .aload_n 0, 1, []), (30, .iload_n 2, 1, []), (31, .iconst 2, 1, []), (32, .invokevirtual 135, 3, [68, 2, 1427]), (35, .iadd, 1, []), (36, .istore_n 1, 1, []), (37, .iinc 2 1, 3, []), (40, .goto (-36), 3, [4]), (43, .iload_n 1, 1, []), (44, .ifCond .ne 10, 3, [54]), (47, .aload_n 0, 1, []), (48, .iconst 1, 1, []), (49, .putfield 36, 3, [8, 0, 0, 1200]), (52, .fconst 0, 1, []), (53, .freturn, 1, []), (54, .aload_n 0, 1, []), (55, .iconst 0, 1, []), (56, .putfield 36, 3, [8, 0, 0, 1200]), (59, .aload_n 0, 1, []), (60, .getfield 9, 3, [8, 1, 0, 1201]), (63, .bipush 7, 2, []), (65, .iaload, 1, []), (66, .aload_n 0, 1, []), (67, .getfield 9, 3, [8, 1, 0, 1201]), (70, .bipush 8, 2, []), (72, .iaload, 1, []), (73, .isub, 1, []), (74, .i2f, 1, []), (75, .iload_n 1, 1, []), (76, .i2f, 1, []), (77, .fdiv, 1, []), (78, .freturn, 1, [])]
/-- CustomsDeskModel.append(C)I -/
def mk_127 : List mg_E := [(0, .iload_n 1, 1, []), (1, .bipush 33, 2, []), (3, .bipush 126, 2, []), (5, .invokestatic 54, 3, [0, 58, 3, 1261]), (8, .ifCond .ne 9, 3, [17]), (11, .aload_n 0, 1, []), (12, .iconst 1, 1, []), (13, .invokevirtual 70, 3, [59, 1, 1264]), (16, .ireturn, 1, []), (17, .aload_n 0, 1, []), (18, .getfield 178, 3, [8, 10, 0, 1210]), (21, .bipush 60, 2, []), (23, .if_icmp .ne 9, 3, [32]), (26, .aload_n 0, 1, []), (27, .iconst 2, 1, []), (28, .invokevirtual 70, 3, [59, 1, 1264]), (31, .ireturn, 1, []), (32, .aload_n 0, 1, []), (33, .getfield 22, 3, [8, 9, 0, 1209]), (36, .aload_n 0, 1, []), (37, .getfield 178, 3, [8, 10, 0, 1210]), (40, .iload_n 1, 1, []), (41, .castore, 1, []), (42, .aload_n 0, 1, []), (43, .dup, 1, []), (44, .getfield 178, 3, [8, 10, 0, 1210]), (47, .iconst 1, 1, []), (48, .iadd, 1, []), (49, .putfield 178, 3, [8, 10, 0, 1210]), (52, .aload_n 0, 1, []), (53, .aload_n 0, 1, []), (54, .getfield 178, 3, [8, 10, 0, 1210]), (57, .invokevirtual 79, 3, [60, 1, 1287]), (60, .ireturn, 1, [])]
/-- CustomsDeskModel.here()I -/
def mk_128 : List mg_E := [(0, .aload_n 0, 1, []), (1, .getfield 181, 3, [8, 13, 0, 1213]), (4, .aload_n 0, 1, []), (5, .getfield 178, 3, [8, 10, 0, 1210]), (8, .if_icmp .ge 15, 3, [23]), (11, .aload_n 0, 1, []), (12, .getfield 22, 3, [8, 9, 0, 1209]), (15, .aload_n 0, 1, []), (16, .getfield 181, 3, [8, 13, 0, 1213]), (19, .caload, 1, []), (20, .goto 4, 3, [24]), (23, .iconst (-1), 1, []), (24, .ireturn, 1, [])]
/-- CustomsDeskModel.reads(C)V -/
def mk_129 : List mg_E := [(0, .aload_n 0, 1, []), (1, .dup, 1, []), (2, .getfield 184, 3, [8, 14, 0, 1214]), (5, .aload_n 0, 1, []), (6, .invokevirtual 187, 3, [128, 0, 1547]), (9, .iload_n 1, 1, []), (10, .if_icmp .eq 7, 3, [17]), (13, .iconst 1, 1, []), (14, .goto 4, 3, [18]), (17, .iconst 0, 1, []), (18, .ior, 1, []), (19, .putfield 184, 3, [8, 14, 0, 1214]), (22, .aload_n 0, 1, []), (23, .dup, 1, []), (24, .getfield 181, 3, [8, 13, 0, 1213]), (27, .aload_n 0, 1, []), (28, .getfield 184, 3, [8, 14, 0, 1214]), (31, .ifCond .eq 7, 3, [38]), (34, .iconst 0, 1, []), (35, .goto 4, 3, [39]), (38, .iconst 1, 1, []), (39, .iadd, 1, []), (40, .putfield 181, 3, [8, 13, 0, 1213]), (43, .return_, 1, [])]
/-- CustomsDeskModel.readsDigit(CC)I -/
def mk_130 : List mg_E := [(0, .aload_n 0, 1, []), (1, .dup, 1, []), (2, .getfield 184, 3, [8, 14, 0, 1214]), (5, .aload_n 0, 1, []), (6, .invokevirtual 187, 3, [128, 0, 1547]), (9, .iload_n 1, 1, []), (10, .iload_n 2, 1, []), (11, .invokestatic 54, 3, [0, 58, 3, 1261]), (14, .ifCond .ne 7, 3, [21]), (17, .iconst 1, 1, []), (18, .goto 4, 3, [22]), (21, .iconst 0, 1, []), (22, .ior, 1, []), (23, .putfield 184, 3, [8, 14, 0, 1214]), (26, .aload_n 0, 1, []), (27, .getfield 184, 3, [8, 14, 0, 1214]), (30, .ifCond .eq 7, 3, [37]), (33, .iconst 0, 1, []), (34, .goto 10, 3, [44]), (37, .aload_n 0, 1, []), (38, .invokevirtual 187, 3, [128, 0, 1547]), (41, .bipush 48, 2, []), (43, .isub, 1, []), (44, .istore_n 3, 1, []), (45, .aload_n 0, 1, []), (46, .dup, 1, []), (47, .getfield 181, 3, [8, 13, 0, 1213]), (50, .aload_n 0, 1, []), (51, .getfield 184, 3, [8, 14, 0, 1214]), (54, .ifCond .eq 7, 3, [61]), (57, .iconst 0, 1, []), (58, .goto 4, 3, [62]), (61, .iconst 1, 1, []), (62, .iadd, 1, []), (63, .putfield 181, 3, [8, 13, 0, 1213]), (66, .iload_n 3, 1, []), (67, .ireturn, 1, [])]
/-- CustomsDeskModel.readsCode()I -/
def mk_131 : List mg_E := [(0, .aload_n 0, 1, []), (1, .bipush 49, 2, []), (3, .bipush 57, 2, []), (5, .invokevirtual 190, 3, [130, 2, 1543]), (8, .istore_n 1, 1, []), (9, .iconst 1, 1, []), (10, .istore_n 2, 1, []), (11, .aload_n 0, 1, []), (12, .getfield 184, 3, [8, 14, 0, 1214]), (15, .ifCond .ne 42, 3, [57]), (18, .iload_n 2, 1, []), (19, .iconst 4, 1, []), (20, .if_icmp .ge 37, 3, [57]), (23, .aload_n 0, 1, []), (24, .invokevirtual 187, 3, [128, 0, 1547]), (27, .bipush 49, 2, []), (29, .bipush 57, 2, []), (31, .invokestatic 54, 3, [0, 58, 3, 1261]), (34, .ifCond .eq 23, 3, [57]), (37, .bipush 10, 2, []), (39, .iload_n 1, 1, []), (40, .imul, 1, []), (41, .aload_n 0, 1, []), (42, .bipush 49, 2, []), (44, .bipush 57, 2, []), (46, .invokevirtual 190, 3, [130, 2, 1543]), (49, .iadd, 1, []), (50, .istore_n 1, 1, []), (51, .iinc 2 1, 3, []), (54, .goto (-43), 3, [11]), (57, .iload_n 1, 1, []), (58, .ireturn, 1, [])]
/-- CustomsDeskModel.readsNumber()I -/
def mk_132 : List mg_E := [(0, .aload_n 0, 1, []), (1, .bipush 49, 2, []), (3, .bipush 57, 2, []), (5, .invokevirtual 190, 3, [130, 2, 1543]), (8, .istore_n 1, 1, []), (9, .iconst 1, 1, []), (10, .istore_n 2, 1, []), (11, .aload_n 0, 1, []), (12, .getfield 184, 3, [8, 14, 0, 1214]), (15, .ifCond .ne 42, 3, [57]), (18, .iload_n 2, 1, []), (19, .iconst 5, 1, []), (20, .if_icmp .ge 37, 3, [57]), (23, .aload_n 0, 1, []), (24, .invokevirtual 187, 3, [128, 0, 1547]), (27, .bipush 48, 2, []), (29, .bipush 57, 2, []), (31, .invokestatic 54, 3, [0, 58, 3, 1261]), (34, .ifCond .eq 23, 3, [57]), (37, .bipush 10, 2, []), (39, .iload_n 1, 1, []), (40, .imul, 1, []), (41, .aload_n 0, 1, []), (42, .bipush 48, 2, []), (44, .bipush 57, 2, []), (46, .invokevirtual 190, 3, [130, 2, 1543]), (49, .iadd, 1, []), (50, .istore_n 1, 1, []), (51, .iinc 2 1, 3, []), (54, .goto (-43), 3, [11]), (57, .iload_n 1, 1, []), (58, .ireturn, 1, [])]
/-- CustomsDeskModel.readsEntry(I)V -/
def mk_133 : List mg_E := [(0, .aload_n 0, 1, []), (1, .getfield 33, 3, [8, 15, 0, 1215]), (4, .iload_n 1, 1, []), (5, .aload_n 0, 1, []), (6, .invokevirtual 194, 3, [131, 0, 1539]), (9, .iastore, 1, []), (10, .aload_n 0, 1, []), (11, .bipush 120, 2, []), (13, .invokevirtual 197, 3, [129, 1, 1551]), (16, .aload_n 0, 1, []), (17, .getfield 33, 3, [8, 15, 0, 1215]), (20, .iload_n 1, 1, []), (21, .iconst 1, 1, []), (22, .iadd, 1, []), (23, .aload_n 0, 1, []), (24, .getfield 184, 3, [8, 14, 0, 1214]), (27, .ifCond .eq 7, 3, [34]), (30, .iconst 0, 1, []), (31, .goto 7, 3, [38]), (34, .aload_n 0, 1, []), (35, .invokevirtual 201, 3, [132, 0, 1555]), (38, .iastore, 1, []), (39, .aload_n 0, 1, []), (40, .bipush 64, 2, []), (42, .invokevirtual 197, 3, [129, 1, 1551]), (45, .iconst 0, 1, []), (46, .istore_n 2, 1, []), (47, .aload_n 0, 1, []), (48, .getfield 184, 3, [8, 14, 0, 1214]), (51, .ifCond .ne 7, 3, [58]), (54, .iconst 1, 1, []), (55, .goto 4, 3, [59]), (58, .iconst 0, 1, []), (59, .istore_n 3, 1, []), (60, .iload_n 3, 1, []), (61, .ifCond .eq 107, 3, [168]), (64, .aload_n 0, 1, []), (65, .getfield 33, 3, [8, 15, 0, 1215]), (68, .iload_n 1, 1, []), (69, .iconst 2, 1, []), (70, .iadd, 1, []), (71, .iconst 2, 1, []), (72, .iload_n 2, 1, []), (73, .imul, 1, []), (74, .iadd, 1, []), (75, .aload_n 0, 1, []), (76, .bipush 48, 2, []), (78, .bipush 57, 2, []), (80, .invokevirtual 190, 3, [130, 2, 1543]), (83, .iastore, 1, []), (84, .aload_n 0, 1, []), (85, .bipush 58, 2, []), (87, .invokevirtual 197, 3, [129, 1, 1551]), (90, .aload_n 0, 1, []), (91, .getfield 33, 3, [8, 15, 0, 1215]), (94, .iload_n 1, 1, []), (95, .iconst 3, 1, []), (96, .iadd, 1, []), (97, .iconst 2, 1, []), (98, .iload_n 2, 1, []), (99, .imul, 1, []), (100, .iadd, 1, []), (101, .aload_n 0, 1, []), (102, .getfield 184, 3, [8, 14, 0, 1214]), (105, .ifCond .eq 7, 3, [112]), (108, .iconst 0, 1, []), (109, .goto 7, 3, [116]), (112, .aload_n 0, 1, []), (113, .invokevirtual 201, 3, [132, 0, 1555]), (116, .iastore, 1, []), (117, .iinc 2 1, 3, []), (120, .aload_n 0, 1, []), (121, .getfield 184, 3, [8, 14, 0, 1214]), (124, .ifCond .ne 21, 3, [145]), (127, .iload_n 2, 1, []), (128, .iconst 4, 1, []), (129, .if_icmp .ge 16, 3, [145]), (132, .aload_n 0, 1, []), (133, .invokevirtual 187, 3, [128, 0, 1547]), (136, .bipush 43, 2, []), (138, .if_icmp .ne 7, 3, [145]), (141, .iconst 1, 1, []), (142, .goto 4, 3, [146]), (145, .iconst 0, 1, []), (146, .istore_n 3, 1, []), (147, .aload_n 0, 1, []), (148, .dup, 1, []), (149, .getfield 181, 3, [8, 13, 0, 1213]), (152, .iload_n 3, 1, []), (153, .ifCond .eq 7, 3, [160]), (156, .iconst 1, 1, []), (157, .goto 4, 3, [161]), (160, .iconst 0, 1, []), (161, .iadd, 1, []), (162, .putfield 181, 3, [8, 13, 0, 1213]), (165, .goto (-105), 3, [60]), (168, .aload_n 0, 1, []), (169, .getfield 33, 3, [8, 15, 0, 1215]), (172, .iload_n 1, 1, []), (173, .bipush 10, 2, []), (175, .iadd, 1, []), (176, .iconst 0, 1, []), (177, .iastore, 1, []), (178, .aload_n 0, 1, []), (179, .getfield 33, 3, [8, 15, 0, 1215]), (182, .iload_n 1, 1, []), (183, .bipush 11, 2, []), (185, .iadd, 1, []), (186, .iconst (-1), 1, []), (187, .iastore, 1, []), (188, .aload_n 0, 1, []), (189, .getfield 184, 3, [8, 14, 0, 1214]), (192, .ifCond .ne 39, 3, [231]), (195, .aload_n 0, 1, []), (196, .invokevirtual 187, 3, [128, 0, 1547]), (199, .bipush 33, 2, []), (201, .if_icmp .ne 30, 3, [231]), (204, .aload_n 0, 1, []), (205, .dup, 1, []), (206, .getfield 181, 3, [8, 13, 0, 1213]), (209, .iconst 1, 1, []), (210, .iadd, 1, []), (211, .putfield 181, 3, [8, 13, 0, 1213]), (214, .aload_n 0, 1, []), (215, .getfield 33, 3, [8, 15, 0, 1215]), (218, .iload_n 1, 1, []), (219, .bipush 10, 2, []), (221, .iadd, 1, []), (222, .aload_n 0, 1, []), (223, .bipush 48, 2, []), (225, .bipush 57, 2, []), (227, .invokevirtual 190, 3, [130, 2, 1543]), (230, .iastore, 1, []), (231, .aload_n 0, 1, []), (232, .getfield 184, 3, [8, 14, 0, 1214]), (235, .ifCond .ne 39, 3, [274]), (238, .aload_n 0, 1, []), (239, .invokevirtual 187, 3, [128, 0, 1547]), (242, .bipush 35, 2, []), (244, .if_icmp .ne 30, 3, [274]), (247, .aload_n 0, 1, []), (248, .dup, 1, []), (249, .getfield 181, 3, [8, 13, 0, 1213]), (252, .iconst 1, 1, []), (253, .iadd, 1, []), (254, .putfield 181, 3, [8, 13, 0, 1213]), (257, .aload_n 0, 1, []), (258, .getfield 33, 3, [8, 15, 0, 1215]), (261, .iload_n 1, 1, []), (262, .bipush 11, 2, []), (264, .iadd, 1, []), (265, .aload_n 0, 1, []), (266, .bipush 48, 2, []), (268, .bipush 57, 2, []), (270, .invokevirtual 190, 3, [130, 2, 1543]), (273, .iastore, 1, []), (274, .aload_n 0, 1, []), (275, .getfield 33, 3, [8, 15, 0, 1215]), (278, .iload_n 1, 1, []), (279, .bipush 12, 2, []), (281, .iadd, 1, []), (282, .iload_n 2, 1, []), (283, .iastore, 1, []), (284, .return_, 1, [])]
/-- CustomsDeskModel.lodgesEntry(I)Z -/
def mk_134 : List mg_E := [(0, .aload_n 0, 1, []), (1, .getfield 9, 3, [8, 1, 0, 1201]), (4, .bipush 6, 2, []), (6, .iconst 0, 1, []), (7, .iastore, 1, []), (8, .iconst 1, 1, []), (9, .istore_n 2, 1, []), (10, .iconst 0, 1, []), (11, .istore_n 3, 1, []), (12, .iload_n 3, 1, []), (13, .aload_n 0, 1, []), (14, .getfield 33, 3, [8, 15, 0, 1215]), (17, .iload_n 1, 1, []), (18, .bipush 12, 2, []), (20, .iadd, 1, []), (21, .iaload, 1, []), (22, .if_icmp .ge 54, 3, [76]), (25, .aload_n 0, 1, []), (26, .aload_n 0, 1, []), (27, .getfield 33, 3, [8, 15, 0, 1215]), (30, .iload_n 1, 1, []), (31, .iconst 2, 1, []), (32, .iadd, 1, []), (33, .iconst 2, 1, []), (34, .iload_n 3, 1, []), (35, .imul, 1, []), (36, .iadd, 1, []), (37, .iaload, 1, []), (38, .aload_n 0, 1, []), (39, .getfield 33, 3, [8, 15, 0, 1215]), (42, .iload_n 1, 1, []), (43, .iconst 3, 1, []), (44, .iadd, 1, []), (45, .iconst 2, 1, []), (46, .iload_n 3, 1, []), (47, .imul, 1, []), (48, .iadd, 1, []), (49, .iaload, 1, []), (50, .invokevirtual 204, 3, [95, 2, 1563]), (53, .istore 4, 2, []), (55, .iload_n 2, 1, []), (56, .aload_n 0, 1, []), (57, .getfield 36, 3, [8, 0, 0, 1200]), (60, .ifCond .ne 7, 3, [67]), (63, .iconst 1, 1, []), (64, .goto 4, 3, [68]), (67, .iconst 0, 1, []), (68, .iand, 1, []), (69, .istore_n 2, 1, []), (70, .iinc 3 1, 3, []), (73, .goto (-61), 3, [12]), (76, .iload_n 2, 1, []), (77, .ifCond .eq 46, 3, [123]), (80, .aload_n 0, 1, []), (81, .aload_n 0, 1, []), (82, .aload_n 0, 1, []), (83, .getfield 33, 3, [8, 15, 0, 1215]), (86, .iload_n 1, 1, []), (87, .iaload, 1, []), (88, .invokevirtual 88, 3, [74, 1, 1315]), (91, .aload_n 0, 1, []), (92, .getfield 33, 3, [8, 15, 0, 1215]), (95, .iload_n 1, 1, []), (96, .iconst 1, 1, []), (97, .iadd, 1, []), (98, .iaload, 1, []), (99, .aload_n 0, 1, []), (100, .getfield 33, 3, [8, 15, 0, 1215]), (103, .iload_n 1, 1, []), (104, .bipush 10, 2, []), (106, .iadd, 1, []), (107, .iaload, 1, []), (108, .aload_n 0, 1, []), (109, .getfield 33, 3, [8, 15, 0, 1215]), (112, .iload_n 1, 1, []), (113, .bipush 11, 2, []), (115, .iadd, 1, []), (116, .iaload, 1, []), (117, .invokevirtual 207, 3, [100, 4, 1564]), (120, .goto 4, 3, [124]), (123, .iconst 0, 1, []), (124, .istore_n 3, 1, []), (125, .iload_n 2, 1, []), (126, .ifCond .eq 14, 3, [140]), (129, .aload_n 0, 1, []), (130, .getfield 36, 3, [8, 0, 0, 1200]), (133, .ifCond .ne 7, 3, [140]), (136, .iconst 1, 1, []), (137, .goto 4, 3, [141]), (140, .iconst 0, 1, []), (141, .ireturn, 1, [])]
/-- CustomsDeskModel.lodge()I -/
def mk_135 : List mg_E := [(0, .aload_n 0, 1, []), (1, .iconst 0, 1, []), (2, .putfield 181, 3, [8, 13, 0, 1213]), (5, .aload_n 0, 1, []), (6, .iconst 0, 1, []), (7, .putfield 184, 3, [8, 14, 0, 1214]), (10, .aload_n 0, 1, []), (11, .iconst 0, 1, []), (12, .invokevirtual 210, 3, [133, 1, 1535]), (15, .iconst 1, 1, []), (16, .istore_n 1, 1, []), (17, .aload_n 0, 1, []), (18, .getfield 184, 3, [8, 14, 0, 1214]), (21, .ifCond .ne 36, 3, [57]), (24, .aload_n 0, 1, []), (25, .invokevirtual 187, 3, [128, 0, 1547]), (28, .bipush 59, 2, []), (30, .if_icmp .ne 27, 3, [57]), (33, .aload_n 0, 1, []), (34, .dup, 1, []), (35, .getfield 181, 3, [8, 13, 0, 1213]), (38, .iconst 1, 1, []), (39, .iadd, 1, []), (40, .putfield 181, 3, [8, 13, 0, 1213]), (43, .aload_n 0, 1, []), (44, .bipush 14, 2, []), (46, .iload_n 1, 1, []), (47, .imul, 1, []), (48, .invokevirtual 210, 3, [133, 1, 1535]), (51, .iinc 1 1, 3, []), (54, .goto (-37), 3, [17]), (57, .aload_n 0, 1, []), (58, .dup, 1, []), (59, .getfield 184, 3, [8, 14, 0, 1214]), (62, .aload_n 0, 1, []), (63, .getfield 181, 3, [8, 13, 0, 1213]), (66, .aload_n 0, 1, []), (67, .getfield 178, 3, [8, 10, 0, 1210]), (70, .if_icmp .ge 7, 3, [77]), (73, .iconst 1, 1, []), (74, .goto 4, 3, [78]), (77, .iconst 0, 1, []), (78, .ior, 1, []), (79, .putfield 184, 3, [8, 14, 0, 1214]), (82, .aload_n 0, 1, []), (83, .iconst 0, 1, []), (84, .putfield 178, 3, [8, 10, 0, 1210]), (87, .aload_n 0, 1, []), (88, .getfield 184, 3, [8, 14, 0, 1214]), (91, .ifCond .eq 17, 3, [108]), (94, .aload_n 0, 1, []), (95, .aload_n 0, 1, []), (96, .getfield 181, 3, [8, 13, 0, 1213]), (99, .putfield 26, 3, [8, 11, 0, 1211]), (102, .aload_n 0, 1, []), (103, .iconst 1, 1, []), (104, .invokevirtual 70, 3, [59, 1, 1264]), (107, .ireturn, 1, []), (108, .iconst 1, 1, []), (109, .istore_n 2, 1, []), (110, .iconst 0, 1, []), (111, .istore_n 3, 1, []), (112, .iload_n 3, 1, []), (113, .iload_n 1, 1, []), (114, .if_icmp .ge 34, 3, [148]), (117, .iload_n 2, 1, []), (118, .aload_n 0, 1, []), (119, .aload_n 0, 1, []), (120, .getfield 33, 3, [8, 15, 0, 1215]), (123, .bipush 14, 2, []), (125, .iload_n 3, 1, []), (126, .imul, 1, []), (127, .iaload, 1, []), (128, .invokevirtual 88, 3, [74, 1, 1315]), (131, .iconst (-1), 1, []), (132, .if_icmp .eq 7, 3, [139]), (135, .iconst 1, 1, []), (136, .goto 4, 3, [140]), (139, .iconst 0, 1, []), (140, .iand, 1, []), (141, .istore_n 2, 1, []), (142, .iinc 3 1, 3, []), (145, .goto (-33), 3, [112]), (148, .iload_n 2, 1, []), (149, .ifCond .ne 9, 3, [158]), (152, .aload_n 0, 1, []), (153, .iconst 2, 1, []), (154, .invokevirtual 70, 3, [59, 1, 1264]), (157, .ireturn, 1, []), (158, .aload_n 0, 1, []), (159, .getfield 9, 3, [8, 1, 0, 1201]), (162, .iconst 0, 1, []), (163, .aload_n 0, 1, []), (164, .getfield 19, 3, [8, 6, 0, 1206]), (167, .iconst 0, 1, []), (168, .invokestatic 42, 3, [0, 61, 4, 1284]), (171, .aload_n 0, 1, []), (172, .iconst 1, 1, []), (173, .putfield 46, 3, [8, 7, 0, 1207]), (176, .iconst 1, 1, []), (177, .istore_n 3, 1, []), (178, .iconst 0, 1, []), (179, .istore 4, 2, []), (181, .iload 4, 2, []), (183, .iload_n 1, 1, []), (184, .if_icmp .ge 23, 3, [207]), (187, .iload_n 3, 1, []), (188, .ifCond .eq 19, 3, [207]), (191, .aload_n 0, 1, []), (192, .bipush 14, 2, []), (194, .iload 4, 2, []), (196, .imul, 1, []), (197, .invokevirtual 213, 3, [134, 1, 1559]), (200, .istore_n 3, 1, []), (201, .iinc 4 1, 3, []), (204, .goto (-23), 3, [181]), (207, .aload_n 0, 1, []), (208, .iconst 0, 1, []), (209, .putfield 46, 3, [8, 7, 0, 1207]), (212, .iload_n 3, 1, []), (213, .ifCond .ne 22, 3, [235]), (216, .aload_n 0, 1, []), (217, .getfield 19, 3, [8, 6, 0, 1206]), (220, .iconst 0, 1, []), (221, .aload_n 0, 1, []), (222, .getfield 9, 3, [8, 1, 0, 1201]), (225, .iconst 0, 1, []), (226, .invokestatic 42, 3, [0, 61, 4, 1284]), (229, .aload_n 0, 1, []), (230, .iconst 3, 1, []), (231, .invokevirtual 70, 3, [59, 1, 1264]), (234, .ireturn, 1, []), (235, .sipush 192, 3, []), (238, .istore 4, 2, []), (240, .iload 4, 2, []), (242, .sipush 200, 3, []), (245, .if_icmp .ge 23, 3, [268]), (248, .aload_n 0, 1, []), (249, .getfield 9, 3, [8, 1, 0, 1201]), (252, .iload 4, 2, []), (254, .aload_n 0, 1, []), (255, .getfield 19, 3, [8, 6, 0, 1206]), (258, .iload 4, 2, []), (260, .iaload, 1, []), (261, .iastore, 1, []), (262, .iinc 4 1, 3, []), (265, .goto (-25), 3, [240]), (268, .aload_n 0, 1, []), (269, .getfield 9, 3, [8, 1, 0, 1201]), (272, .bipush 6, 2, []), (274, .aload_n 0, 1, []), (275, .getfield 19, 3, [8, 6, 0, 1206]), (278, .bipush 6, 2, []), (280, .iaload, 1, []), (281, .iastore, 1, []), (282, .aload_n 0, 1, []), (283, .aload_n 0, 1, []), (284, .getfield 19, 3, [8, 6, 0, 1206]), (287, .invokevirtual 50, 3, [62, 1, 1280]), (290, .aload_n 0, 1, []), (291, .iload_n 1, 1, []), (292, .invokevirtual 79, 3, [60, 1, 1287]), (295, .ireturn, 1, [])]
/-- CustomsDeskModel.errorPosition()I -/
def mk_136 : List mg_E := [(0, .aload_n 0, 1, []), (1, .getfield 26, 3, [8, 11, 0, 1211]), (4, .iconst (-1), 1, []), (5, .if_icmp .ne 11, 3, [16]), (8, .aload_n 0, 1, []), (9, .iconst 1, 1, []), (10, .invokevirtual 70, 3, [59, 1, 1264]), (13, .goto 11, 3, [24]), (16, .aload_n 0, 1, []), (17, .aload_n 0, 1, []), (18, .getfield 26, 3, [8, 11, 0, 1211]), (21, .invokevirtual 79, 3, [60, 1, 1287]), (24, .ireturn, 1, [])]
/-- CustomsDeskModel.changes()I -/
def mk_137 : List mg_E := [(0, .aload_n 0, 1, []), (1, .aload_n 0, 1, []), (2, .getfield 39, 3, [8, 3, 0, 1203]), (5, .invokevirtual 79, 3, [60, 1, 1287]), (8, .ireturn, 1, [])]
/-- CustomsDeskModel.undo()I -/
def mk_138 : List mg_E := [(0, .aload_n 0, 1, []), (1, .getfield 39, 3, [8, 3, 0, 1203]), (4, .ifCond .ne 9, 3, [13]), (7, .aload_n 0, 1, []), (8, .iconst 1, 1, []), (9, .invokevirtual 70, 3, [59, 1, 1264]), (12, .ireturn, 1, []), (13, .aload_n 0, 1, []), (14, .dup, 1, []), (15, .getfield 39, 3, [8, 3, 0, 1203]), (18, .iconst 1, 1, []), (19, .isub, 1, []), (20, .putfield 39, 3, [8, 3, 0, 1203]), (23, .aload_n 0, 1, []), (24, .getfield 13, 3, [8, 2, 0, 1202]), (27, .aload_n 0, 1, []), (28, .getfield 39, 3, [8, 3, 0, 1203]), (31, .sipush 690, 3, []), (34, .imul, 1, []), (35, .aload_n 0, 1, []), (36, .getfield 9, 3, [8, 1, 0, 1201]), (39, .iconst 0, 1, []), (40, .invokestatic 42, 3, [0, 61, 4, 1284]), (43, .aload_n 0, 1, []), (44, .aload_n 0, 1, []), (45, .getfield 39, 3, [8, 3, 0, 1203]), (48, .invokevirtual 79, 3, [60, 1, 1287]), (51, .ireturn, 1, [])]
/-- CustomsDeskModel.save()I -/
def mk_139 : List mg_E := [(0, .aload_n 0, 1, []), (1, .getfield 9, 3, [8, 1, 0, 1201]), (4, .iconst 0, 1, []), (5, .aload_n 0, 1, []), (6, .getfield 16, 3, [8, 4, 0, 1204]), (9, .iconst 0, 1, []), (10, .invokestatic 42, 3, [0, 61, 4, 1284]), (13, .aload_n 0, 1, []), (14, .iconst 1, 1, []), (15, .putfield 216, 3, [8, 5, 0, 1205]), (18, .aload_n 0, 1, []), (19, .aload_n 0, 1, []), (20, .getfield 9, 3, [8, 1, 0, 1201]), (23, .iconst 5, 1, []), (24, .iaload, 1, []), (25, .invokevirtual 79, 3, [60, 1, 1287]), (28, .ireturn, 1, [])]
/-- CustomsDeskModel.restore()I -/
def mk_140 : List mg_E := [(0, .aload_n 0, 1, []), (1, .getfield 216, 3, [8, 5, 0, 1205]), (4, .ifCond .ne 9, 3, [13]), (7, .aload_n 0, 1, []), (8, .iconst 1, 1, []), (9, .invokevirtual 70, 3, [59, 1, 1264]), (12, .ireturn, 1, []), (13, .aload_n 0, 1, []), (14, .invokevirtual 76, 3, [63, 0, 1276]), (17, .aload_n 0, 1, []), (18, .getfield 16, 3, [8, 4, 0, 1204]), (21, .iconst 0, 1, []), (22, .aload_n 0, 1, []), (23, .getfield 9, 3, [8, 1, 0, 1201]), (26, .iconst 0, 1, []), (27, .invokestatic 42, 3, [0, 61, 4, 1284]), (30, .aload_n 0, 1, []), (31, .aload_n 0, 1, []), (32, .getfield 9, 3, [8, 1, 0, 1201]), (35, .iconst 5, 1, []), (36, .iaload, 1, []), (37, .invokevirtual 79, 3, [60, 1, 1287]), (40, .ireturn, 1, [])]
/-- CustomsDesk$Goods.<init>()V -/
def mk_141 : List mg_E := [(0, .aload_n 0, 1, []), (1, .invokespecial 1, 3, [2, 191]), (4, .return_, 1, [])]
/-- CustomsDesk$Goods.fill(IIIII)V -/
def mk_142 : List mg_E := [(0, .aload_n 0, 1, []), (1, .iload_n 1, 1, []), (2, .putfield 7, 3, [0, 0, 0, 192]), (5, .aload_n 0, 1, []), (6, .iload_n 2, 1, []), (7, .putfield 13, 3, [0, 1, 0, 195]), (10, .aload_n 0, 1, []), (11, .iload_n 3, 1, []), (12, .putfield 16, 3, [0, 2, 0, 198]), (15, .aload_n 0, 1, []), (16, .iload 4, 2, []), (18, .putfield 19, 3, [0, 3, 0, 200]), (21, .aload_n 0, 1, []), (22, .iload 5, 2, []), (24, .putfield 22, 3, [0, 4, 0, 202]), (27, .return_, 1, [])]
/-- CustomsDesk$Ledger.<init>()V -/
def mk_143 : List mg_E := [(0, .aload_n 0, 1, []), (1, .invokespecial 3, 3, [2, 172]), (4, .aload_n 0, 1, []), (5, .new 9, 3, [0, 4, 173]), (8, .dup, 1, []), (9, .iconst 3, 1, []), (10, .iconst 1, 1, []), (11, .bipush 9, 2, []), (13, .invokespecial 11, 3, [0, 180, 3, 174]), (16, .putfield 14, 3, [1, 0, 0, 175]), (19, .aload_n 0, 1, []), (20, .new 9, 3, [0, 4, 173]), (23, .dup, 1, []), (24, .bipush 8, 2, []), (26, .iconst 1, 1, []), (27, .bipush 9, 2, []), (29, .invokespecial 11, 3, [0, 180, 3, 174]), (32, .putfield 20, 3, [1, 1, 0, 177]), (35, .return_, 1, [])]
/-- CustomsDesk$Ledger.day()I -/
def mk_144 : List mg_E := [(0, .aload_n 0, 1, []), (1, .getfield 14, 3, [1, 0, 0, 175]), (4, .iconst 0, 1, []), (5, .iconst 0, 1, []), (6, .invokevirtual 23, 3, [184, 2, 648]), (9, .ireturn, 1, [])]
/-- CustomsDesk$Ledger.found()I -/
def mk_145 : List mg_E := [(0, .aload_n 0, 1, []), (1, .getfield 14, 3, [1, 0, 0, 175]), (4, .iconst 1, 1, []), (5, .iconst 0, 1, []), (6, .invokevirtual 23, 3, [184, 2, 648]), (9, .ireturn, 1, [])]
/-- CustomsDesk$Ledger.allGivenBack()I -/
def mk_146 : List mg_E := [(0, .aload_n 0, 1, []), (1, .getfield 14, 3, [1, 0, 0, 175]), (4, .iconst 2, 1, []), (5, .iconst 0, 1, []), (6, .invokevirtual 23, 3, [184, 2, 648]), (9, .ireturn, 1, [])]
/-- CustomsDesk$Ledger.addDuty(II)V -/
def mk_147 : List mg_E := [(0, .aload_n 0, 1, []), (1, .getfield 14, 3, [1, 0, 0, 175]), (4, .iconst 1, 1, []), (5, .iconst 0, 1, []), (6, .iload_n 2, 1, []), (7, .invokevirtual 27, 3, [186, 3, 905]), (10, .aload_n 0, 1, []), (11, .getfield 20, 3, [1, 1, 0, 177]), (14, .iload_n 1, 1, []), (15, .iconst 0, 1, []), (16, .iload_n 2, 1, []), (17, .invokevirtual 27, 3, [186, 3, 905]), (20, .return_, 1, [])]
/-- CustomsDesk$Ledger.giveBack(II)V -/
def mk_148 : List mg_E := [(0, .aload_n 0, 1, []), (1, .getfield 14, 3, [1, 0, 0, 175]), (4, .iconst 2, 1, []), (5, .iconst 0, 1, []), (6, .iload_n 2, 1, []), (7, .invokevirtual 27, 3, [186, 3, 905]), (10, .aload_n 0, 1, []), (11, .getfield 20, 3, [1, 1, 0, 177]), (14, .iload_n 1, 1, []), (15, .iconst 0, 1, []), (16, .iload_n 2, 1, []), (17, .ineg, 1, []), (18, .invokevirtual 27, 3, [186, 3, 905]), (21, .return_, 1, [])]
/-- CustomsDesk$Ledger.keepIn(I)V -/
def mk_149 : List mg_E := [(0, .aload_n 0, 1, []), (1, .getfield 14, 3, [1, 0, 0, 175]), (4, .iload_n 1, 1, []), (5, .invokevirtual 30, 3, [190, 1, 344]), (8, .aload_n 0, 1, []), (9, .getfield 20, 3, [1, 1, 0, 177]), (12, .iload_n 1, 1, []), (13, .invokevirtual 30, 3, [190, 1, 344]), (16, .return_, 1, [])]
/-- CustomsDesk$Ledger.bringFrom(I)V -/
def mk_150 : List mg_E := [(0, .aload_n 0, 1, []), (1, .getfield 14, 3, [1, 0, 0, 175]), (4, .iload_n 1, 1, []), (5, .invokevirtual 34, 3, [191, 1, 1183]), (8, .aload_n 0, 1, []), (9, .getfield 20, 3, [1, 1, 0, 177]), (12, .iload_n 1, 1, []), (13, .invokevirtual 34, 3, [191, 1, 1183]), (16, .return_, 1, [])]
/-- CustomsDesk$Office.<init>()V -/
def mk_151 : List mg_E := [(0, .aload_n 0, 1, []), (1, .invokespecial 3, 3, [2, 116]), (4, .aload_n 0, 1, []), (5, .new 9, 3, [0, 5, 117]), (8, .dup, 1, []), (9, .invokespecial 11, 3, [0, 194, 0, 119]), (12, .putfield 12, 3, [2, 0, 0, 216]), (15, .aload_n 0, 1, []), (16, .new 18, 3, [0, 1, 167]), (19, .dup, 1, []), (20, .invokespecial 20, 3, [1, 143, 0, 169]), (23, .putfield 21, 3, [2, 1, 0, 218]), (26, .aload_n 0, 1, []), (27, .new 25, 3, [0, 4, 184]), (30, .dup, 1, []), (31, .bipush 6, 2, []), (33, .bipush 9, 2, []), (35, .bipush 9, 2, []), (37, .invokespecial 27, 3, [0, 180, 3, 185]), (40, .putfield 30, 3, [2, 2, 0, 220]), (43, .aload_n 0, 1, []), (44, .new 25, 3, [0, 4, 184]), (47, .dup, 1, []), (48, .bipush 30, 2, []), (50, .bipush 15, 2, []), (52, .bipush 9, 2, []), (54, .invokespecial 27, 3, [0, 180, 3, 185]), (57, .putfield 34, 3, [2, 3, 0, 222]), (60, .aload_n 0, 1, []), (61, .new 37, 3, [0, 0, 186]), (64, .dup, 1, []), (65, .invokespecial 39, 3, [1, 141, 0, 188]), (68, .putfield 40, 3, [2, 4, 0, 224]), (71, .return_, 1, [])]
/-- CustomsDesk$Office.enter(IIIILCustomsDesk$Parts;)I -/
def mk_152 : List mg_E := [(0, .aload_n 0, 1, []), (1, .getfield 34, 3, [2, 3, 0, 222]), (4, .invokevirtual 44, 3, [187, 0, 793]), (7, .istore 6, 2, []), (9, .aload_n 0, 1, []), (10, .getfield 34, 3, [2, 3, 0, 222]), (13, .iload 6, 2, []), (15, .iconst 0, 1, []), (16, .iload_n 1, 1, []), (17, .invokevirtual 48, 3, [185, 3, 794]), (20, .aload_n 0, 1, []), (21, .getfield 34, 3, [2, 3, 0, 222]), (24, .iload 6, 2, []), (26, .iconst 1, 1, []), (27, .iload_n 2, 1, []), (28, .invokevirtual 48, 3, [185, 3, 794]), (31, .aload_n 0, 1, []), (32, .getfield 34, 3, [2, 3, 0, 222]), (35, .iload 6, 2, []), (37, .iconst 2, 1, []), (38, .aload 5, 2, []), (40, .invokevirtual 51, 3, [177, 0, 795]), (43, .invokevirtual 48, 3, [185, 3, 794]), (46, .aload_n 0, 1, []), (47, .getfield 34, 3, [2, 3, 0, 222]), (50, .iload 6, 2, []), (52, .iconst 3, 1, []), (53, .aload 5, 2, []), (55, .aload_n 0, 1, []), (56, .getfield 12, 3, [2, 0, 0, 216]), (59, .iconst 0, 1, []), (60, .invokevirtual 56, 3, [195, 1, 796]), (63, .invokevirtual 60, 3, [179, 1, 797]), (66, .invokevirtual 48, 3, [185, 3, 794]), (69, .aload_n 0, 1, []), (70, .getfield 34, 3, [2, 3, 0, 222]), (73, .iload 6, 2, []), (75, .iconst 4, 1, []), (76, .iload_n 3, 1, []), (77, .invokevirtual 48, 3, [185, 3, 794]), (80, .aload_n 0, 1, []), (81, .getfield 34, 3, [2, 3, 0, 222]), (84, .iload 6, 2, []), (86, .iconst 5, 1, []), (87, .iload 4, 2, []), (89, .invokevirtual 48, 3, [185, 3, 794]), (92, .aload_n 0, 1, []), (93, .getfield 34, 3, [2, 3, 0, 222]), (96, .iload 6, 2, []), (98, .bipush 6, 2, []), (100, .aload_n 0, 1, []), (101, .getfield 21, 3, [2, 1, 0, 218]), (104, .invokevirtual 63, 3, [144, 0, 798]), (107, .invokevirtual 48, 3, [185, 3, 794]), (110, .aload_n 0, 1, []), (111, .getfield 34, 3, [2, 3, 0, 222]), (114, .iload 6, 2, []), (116, .bipush 7, 2, []), (118, .iconst 0, 1, []), (119, .invokevirtual 48, 3, [185, 3, 794]), (122, .aload_n 0, 1, []), (123, .getfield 34, 3, [2, 3, 0, 222]), (126, .iload 6, 2, []), (128, .bipush 12, 2, []), (130, .iconst (-1), 1, []), (131, .invokevirtual 48, 3, [185, 3, 794]), (134, .aload_n 0, 1, []), (135, .getfield 34, 3, [2, 3, 0, 222]), (138, .iload 6, 2, []), (140, .bipush 13, 2, []), (142, .iconst (-1), 1, []), (143, .invokevirtual 48, 3, [185, 3, 794]), (146, .aload_n 0, 1, []), (147, .getfield 34, 3, [2, 3, 0, 222]), (150, .iload 6, 2, []), (152, .bipush 14, 2, []), (154, .iconst (-1), 1, []), (155, .invokevirtual 48, 3, [185, 3, 794]), (158, .iload 6, 2, []), (160, .ireturn, 1, [])]
/-- CustomsDesk$Office.hasStatus(II)Z -/
def mk_153 : List mg_E := [(0, .aload_n 0, 1, []), (1, .getfield 34, 3, [2, 3, 0, 222]), (4, .iload_n 1, 1, []), (5, .bipush 7, 2, []), (7, .invokevirtual 66, 3, [184, 2, 823]), (10, .iload_n 2, 1, []), (11, .if_icmp .ne 7, 3, [18]), (14, .iconst 1, 1, []), (15, .goto 4, 3, [19]), (18, .iconst 0, 1, []), (19, .ireturn, 1, [])]
/-- CustomsDesk$Office.countWith(I)I -/
def mk_154 : List mg_E := [(0, .iconst 0, 1, []), (1, .istore_n 2, 1, []), (2, .iconst 0, 1, []), (3, .istore_n 3, 1, []), (4, .iload_n 3, 1, []), (5, .aload_n 0, 1, []), (6, .getfield 34, 3, [2, 3, 0, 222]), (9, .invokevirtual 70, 3, [181, 0, 848]), (12, .if_icmp .ge 21, 3, [33]), (15, .aload_n 0, 1, []), (16, .iload_n 3, 1, []), (17, .iload_n 1, 1, []), (18, .invokevirtual 73, 3, [153, 2, 853]), (21, .ifCond .eq 6, 3, [27]), (24, .iinc 2 1, 3, []), (27, .iinc 3 1, 3, []), (30, .goto (-26), 3, [4]), (33, .iload_n 2, 1, []), (34, .ireturn, 1, [])]
/-- CustomsDesk$Office.claimReason(I)I -/
def mk_155 : List mg_E := [(0, .aload_n 0, 1, []), (1, .getfield 34, 3, [2, 3, 0, 222]), (4, .iload_n 1, 1, []), (5, .iconst 5, 1, []), (6, .invokevirtual 66, 3, [184, 2, 823]), (9, .istore_n 2, 1, []), (10, .aload_n 0, 1, []), (11, .getfield 30, 3, [2, 2, 0, 220]), (14, .iload_n 2, 1, []), (15, .iconst 1, 1, []), (16, .invokevirtual 66, 3, [184, 2, 823]), (19, .istore_n 3, 1, []), (20, .aload_n 0, 1, []), (21, .iload_n 1, 1, []), (22, .invokevirtual 77, 3, [166, 1, 829]), (25, .aload_n 0, 1, []), (26, .getfield 12, 3, [2, 0, 0, 216]), (29, .aload_n 0, 1, []), (30, .getfield 40, 3, [2, 4, 0, 224]), (33, .getfield 81, 3, [0, 0, 1, 193]), (36, .aload_n 0, 1, []), (37, .getfield 30, 3, [2, 2, 0, 220]), (40, .iload_n 2, 1, []), (41, .iconst 0, 1, []), (42, .invokevirtual 66, 3, [184, 2, 823]), (45, .invokevirtual 85, 3, [201, 2, 834]), (48, .ifCond .ne 5, 3, [53]), (51, .iconst 1, 1, []), (52, .ireturn, 1, []), (53, .iload_n 3, 1, []), (54, .iconst (-1), 1, []), (55, .if_icmp .eq 16, 3, [71]), (58, .iload_n 3, 1, []), (59, .aload_n 0, 1, []), (60, .getfield 40, 3, [2, 4, 0, 224]), (63, .getfield 88, 3, [0, 1, 1, 196]), (66, .if_icmp .eq 5, 3, [71]), (69, .iconst 2, 1, []), (70, .ireturn, 1, []), (71, .aload_n 0, 1, []), (72, .getfield 40, 3, [2, 4, 0, 224]), (75, .getfield 91, 3, [0, 4, 1, 203]), (78, .aload_n 0, 1, []), (79, .getfield 30, 3, [2, 2, 0, 220]), (82, .iload_n 2, 1, []), (83, .iconst 4, 1, []), (84, .invokevirtual 66, 3, [184, 2, 823]), (87, .aload_n 0, 1, []), (88, .getfield 30, 3, [2, 2, 0, 220]), (91, .iload_n 2, 1, []), (92, .iconst 5, 1, []), (93, .invokevirtual 66, 3, [184, 2, 823]), (96, .invokestatic 93, 3, [1, 54, 3, 835]), (99, .ifCond .ne 5, 3, [104]), (102, .iconst 3, 1, []), (103, .ireturn, 1, []), (104, .aload_n 0, 1, []), (105, .getfield 30, 3, [2, 2, 0, 220]), (108, .iload_n 2, 1, []), (109, .iconst 3, 1, []), (110, .invokevirtual 66, 3, [184, 2, 823]), (113, .aload_n 0, 1, []), (114, .getfield 12, 3, [2, 0, 0, 216]), (117, .aload_n 0, 1, []), (118, .getfield 40, 3, [2, 4, 0, 224]), (121, .invokevirtual 97, 3, [203, 1, 836]), (124, .if_icmp .lt 5, 3, [129]), (127, .iconst 4, 1, []), (128, .ireturn, 1, []), (129, .aload_n 0, 1, []), (130, .getfield 30, 3, [2, 2, 0, 220]), (133, .iload_n 2, 1, []), (134, .bipush 6, 2, []), (136, .invokevirtual 66, 3, [184, 2, 823]), (139, .ifCond .ne 7, 3, [146]), (142, .iconst 5, 1, []), (143, .goto 4, 3, [147]), (146, .iconst 0, 1, []), (147, .ireturn, 1, [])]
/-- CustomsDesk$Office.goodQuantity(I)I -/
def mk_156 : List mg_E := [(0, .iconst 0, 1, []), (1, .istore_n 2, 1, []), (2, .iconst 0, 1, []), (3, .istore_n 3, 1, []), (4, .iload_n 3, 1, []), (5, .aload_n 0, 1, []), (6, .getfield 34, 3, [2, 3, 0, 222]), (9, .invokevirtual 70, 3, [181, 0, 848]), (12, .if_icmp .ge 38, 3, [50]), (15, .aload_n 0, 1, []), (16, .iload_n 3, 1, []), (17, .iload_n 1, 1, []), (18, .invokevirtual 101, 3, [167, 2, 849]), (21, .ifCond .eq 23, 3, [44]), (24, .aload_n 0, 1, []), (25, .iload_n 3, 1, []), (26, .invokevirtual 104, 3, [155, 1, 854]), (29, .ifCond .ne 15, 3, [44]), (32, .iload_n 2, 1, []), (33, .aload_n 0, 1, []), (34, .getfield 34, 3, [2, 3, 0, 222]), (37, .iload_n 3, 1, []), (38, .iconst 1, 1, []), (39, .invokevirtual 66, 3, [184, 2, 823]), (42, .iadd, 1, []), (43, .istore_n 2, 1, []), (44, .iinc 3 1, 3, []), (47, .goto (-43), 3, [4]), (50, .iload_n 2, 1, []), (51, .ireturn, 1, [])]
/-- CustomsDesk$Office.serve(II)V -/
def mk_157 : List mg_E := [(0, .aload_n 0, 1, []), (1, .getfield 30, 3, [2, 2, 0, 220]), (4, .iload_n 1, 1, []), (5, .bipush 6, 2, []), (7, .invokevirtual 66, 3, [184, 2, 823]), (10, .iload_n 2, 1, []), (11, .invokestatic 107, 3, [4, 868]), (14, .istore_n 3, 1, []), (15, .iload_n 3, 1, []), (16, .istore 4, 2, []), (18, .iconst 0, 1, []), (19, .istore 5, 2, []), (21, .iload 5, 2, []), (23, .aload_n 0, 1, []), (24, .getfield 34, 3, [2, 3, 0, 222]), (27, .invokevirtual 70, 3, [181, 0, 848]), (30, .if_icmp .ge 83, 3, [113]), (33, .aload_n 0, 1, []), (34, .iload 5, 2, []), (36, .iload_n 1, 1, []), (37, .invokevirtual 101, 3, [167, 2, 849]), (40, .ifCond .eq 20, 3, [60]), (43, .aload_n 0, 1, []), (44, .getfield 34, 3, [2, 3, 0, 222]), (47, .iload 5, 2, []), (49, .bipush 14, 2, []), (51, .aload_n 0, 1, []), (52, .iload 5, 2, []), (54, .invokevirtual 104, 3, [155, 1, 854]), (57, .invokevirtual 48, 3, [185, 3, 794]), (60, .aload_n 0, 1, []), (61, .iload 5, 2, []), (63, .iload_n 1, 1, []), (64, .invokevirtual 112, 3, [168, 2, 869]), (67, .ifCond .eq 40, 3, [107]), (70, .aload_n 0, 1, []), (71, .getfield 34, 3, [2, 3, 0, 222]), (74, .iload 5, 2, []), (76, .iconst 1, 1, []), (77, .invokevirtual 66, 3, [184, 2, 823]), (80, .iload_n 3, 1, []), (81, .iload_n 2, 1, []), (82, .invokestatic 115, 3, [1, 55, 3, 873]), (85, .istore 6, 2, []), (87, .aload_n 0, 1, []), (88, .getfield 34, 3, [2, 3, 0, 222]), (91, .iload 5, 2, []), (93, .bipush 8, 2, []), (95, .iload 6, 2, []), (97, .invokevirtual 48, 3, [185, 3, 794]), (100, .iload 4, 2, []), (102, .iload 6, 2, []), (104, .isub, 1, []), (105, .istore 4, 2, []), (107, .iinc 5 1, 3, []), (110, .goto (-89), 3, [21]), (113, .aload_n 0, 1, []), (114, .iload_n 1, 1, []), (115, .iload 4, 2, []), (117, .invokevirtual 119, 3, [169, 2, 876]), (120, .aload_n 0, 1, []), (121, .getfield 30, 3, [2, 2, 0, 220]), (124, .iload_n 1, 1, []), (125, .bipush 6, 2, []), (127, .iload_n 3, 1, []), (128, .ineg, 1, []), (129, .invokevirtual 123, 3, [186, 3, 880]), (132, .aload_n 0, 1, []), (133, .getfield 30, 3, [2, 2, 0, 220]), (136, .iload_n 1, 1, []), (137, .bipush 7, 2, []), (139, .iload_n 3, 1, []), (140, .invokevirtual 123, 3, [186, 3, 880]), (143, .return_, 1, [])]
/-- CustomsDesk$Office.assessLodged()I -/
def mk_158 : List mg_E := [(0, .iconst 0, 1, []), (1, .istore_n 1, 1, []), (2, .iconst 0, 1, []), (3, .istore_n 2, 1, []), (4, .iload_n 2, 1, []), (5, .aload_n 0, 1, []), (6, .getfield 34, 3, [2, 3, 0, 222]), (9, .invokevirtual 70, 3, [181, 0, 848]), (12, .if_icmp .ge 26, 3, [38]), (15, .aload_n 0, 1, []), (16, .iload_n 2, 1, []), (17, .iconst 0, 1, []), (18, .invokevirtual 73, 3, [153, 2, 853]), (21, .ifCond .eq 11, 3, [32]), (24, .aload_n 0, 1, []), (25, .iload_n 2, 1, []), (26, .invokevirtual 126, 3, [170, 1, 888]), (29, .iinc 1 1, 3, []), (32, .iinc 2 1, 3, []), (35, .goto (-31), 3, [4]), (38, .iload_n 1, 1, []), (39, .ireturn, 1, [])]
/-- CustomsDesk$Office.refusalReason(I)I -/
def mk_159 : List mg_E := [(0, .aload_n 0, 1, []), (1, .iload_n 1, 1, []), (2, .iconst 0, 1, []), (3, .invokevirtual 73, 3, [153, 2, 853]), (6, .ifCond .eq 5, 3, [11]), (9, .iconst 1, 1, []), (10, .ireturn, 1, []), (11, .aload_n 0, 1, []), (12, .iload_n 1, 1, []), (13, .iconst 2, 1, []), (14, .invokevirtual 73, 3, [153, 2, 853]), (17, .ifCond .eq 5, 3, [22]), (20, .iconst 2, 1, []), (21, .ireturn, 1, []), (22, .aload_n 0, 1, []), (23, .getfield 21, 3, [2, 1, 0, 218]), (26, .invokevirtual 63, 3, [144, 0, 798]), (29, .aload_n 0, 1, []), (30, .getfield 34, 3, [2, 3, 0, 222]), (33, .iload_n 1, 1, []), (34, .bipush 6, 2, []), (36, .invokevirtual 66, 3, [184, 2, 823]), (39, .isub, 1, []), (40, .istore_n 2, 1, []), (41, .iload_n 2, 1, []), (42, .aload_n 0, 1, []), (43, .getfield 12, 3, [2, 0, 0, 216]), (46, .iconst 1, 1, []), (47, .invokevirtual 56, 3, [195, 1, 796]), (50, .if_icmp .le 7, 3, [57]), (53, .iconst 3, 1, []), (54, .goto 4, 3, [58]), (57, .iconst 0, 1, []), (58, .ireturn, 1, [])]
/-- CustomsDesk$Office.giveAllBack(I)I -/
def mk_160 : List mg_E := [(0, .aload_n 0, 1, []), (1, .iload_n 1, 1, []), (2, .invokevirtual 129, 3, [162, 1, 942]), (5, .istore_n 2, 1, []), (6, .aload_n 0, 1, []), (7, .iload_n 1, 1, []), (8, .iload_n 2, 1, []), (9, .invokevirtual 132, 3, [173, 2, 946]), (12, .aload_n 0, 1, []), (13, .iload_n 1, 1, []), (14, .invokevirtual 135, 3, [174, 1, 954]), (17, .aload_n 0, 1, []), (18, .getfield 34, 3, [2, 3, 0, 222]), (21, .iload_n 1, 1, []), (22, .bipush 7, 2, []), (24, .iconst 2, 1, []), (25, .invokevirtual 48, 3, [185, 3, 794]), (28, .iload_n 2, 1, []), (29, .ireturn, 1, [])]
/-- CustomsDesk$Office.takeProof(II)I -/
def mk_161 : List mg_E := [(0, .aload_n 0, 1, []), (1, .getfield 34, 3, [2, 3, 0, 222]), (4, .iload_n 1, 1, []), (5, .iconst 4, 1, []), (6, .iload_n 2, 1, []), (7, .invokevirtual 48, 3, [185, 3, 794]), (10, .aload_n 0, 1, []), (11, .iload_n 1, 1, []), (12, .invokevirtual 77, 3, [166, 1, 829]), (15, .aload_n 0, 1, []), (16, .getfield 12, 3, [2, 0, 0, 216]), (19, .aload_n 0, 1, []), (20, .getfield 40, 3, [2, 4, 0, 224]), (23, .invokevirtual 97, 3, [203, 1, 836]), (26, .istore_n 3, 1, []), (27, .aload_n 0, 1, []), (28, .iload_n 1, 1, []), (29, .iload_n 3, 1, []), (30, .invokevirtual 138, 3, [172, 2, 896]), (33, .istore 4, 2, []), (35, .aload_n 0, 1, []), (36, .getfield 34, 3, [2, 3, 0, 222]), (39, .iload_n 1, 1, []), (40, .bipush 10, 2, []), (42, .invokevirtual 66, 3, [184, 2, 823]), (45, .iload 4, 2, []), (47, .isub, 1, []), (48, .istore 5, 2, []), (50, .iload 5, 2, []), (52, .ifCond .gt 5, 3, [57]), (55, .iconst 0, 1, []), (56, .ireturn, 1, []), (57, .aload_n 0, 1, []), (58, .getfield 34, 3, [2, 3, 0, 222]), (61, .iload_n 1, 1, []), (62, .bipush 10, 2, []), (64, .iload 4, 2, []), (66, .invokevirtual 48, 3, [185, 3, 794]), (69, .aload_n 0, 1, []), (70, .getfield 34, 3, [2, 3, 0, 222]), (73, .iload_n 1, 1, []), (74, .bipush 12, 2, []), (76, .iload_n 3, 1, []), (77, .invokevirtual 48, 3, [185, 3, 794]), (80, .aload_n 0, 1, []), (81, .getfield 34, 3, [2, 3, 0, 222]), (84, .iload_n 1, 1, []), (85, .bipush 13, 2, []), (87, .aload_n 0, 1, []), (88, .getfield 12, 3, [2, 0, 0, 216]), (91, .iload_n 3, 1, []), (92, .aload_n 0, 1, []), (93, .getfield 40, 3, [2, 4, 0, 224]), (96, .invokevirtual 141, 3, [204, 2, 900]), (99, .invokevirtual 48, 3, [185, 3, 794]), (102, .aload_n 0, 1, []), (103, .iload_n 1, 1, []), (104, .iload 5, 2, []), (106, .invokevirtual 132, 3, [173, 2, 946]), (109, .iload 5, 2, []), (111, .ireturn, 1, [])]
/-- CustomsDesk$Office.keptOf(I)I -/
def mk_162 : List mg_E := [(0, .aload_n 0, 1, []), (1, .iload_n 1, 1, []), (2, .iconst 1, 1, []), (3, .invokevirtual 73, 3, [153, 2, 853]), (6, .ifCond .ne 5, 3, [11]), (9, .iconst 0, 1, []), (10, .ireturn, 1, []), (11, .aload_n 0, 1, []), (12, .getfield 34, 3, [2, 3, 0, 222]), (15, .iload_n 1, 1, []), (16, .bipush 9, 2, []), (18, .invokevirtual 66, 3, [184, 2, 823]), (21, .aload_n 0, 1, []), (22, .getfield 34, 3, [2, 3, 0, 222]), (25, .iload_n 1, 1, []), (26, .bipush 10, 2, []), (28, .invokevirtual 66, 3, [184, 2, 823]), (31, .iadd, 1, []), (32, .ireturn, 1, [])]
/-- CustomsDesk$Office.assessedValue()I -/
def mk_163 : List mg_E := [(0, .iconst 0, 1, []), (1, .istore_n 1, 1, []), (2, .iconst 0, 1, []), (3, .istore_n 2, 1, []), (4, .iload_n 2, 1, []), (5, .aload_n 0, 1, []), (6, .getfield 34, 3, [2, 3, 0, 222]), (9, .invokevirtual 70, 3, [181, 0, 848]), (12, .if_icmp .ge 30, 3, [42]), (15, .aload_n 0, 1, []), (16, .iload_n 2, 1, []), (17, .iconst 0, 1, []), (18, .invokevirtual 73, 3, [153, 2, 853]), (21, .ifCond .ne 15, 3, [36]), (24, .iload_n 1, 1, []), (25, .aload_n 0, 1, []), (26, .getfield 34, 3, [2, 3, 0, 222]), (29, .iload_n 2, 1, []), (30, .iconst 2, 1, []), (31, .invokevirtual 66, 3, [184, 2, 823]), (34, .iadd, 1, []), (35, .istore_n 1, 1, []), (36, .iinc 2 1, 3, []), (39, .goto (-35), 3, [4]), (42, .iload_n 1, 1, []), (43, .ireturn, 1, [])]
/-- CustomsDesk$Office.keepIn(I)V -/
def mk_164 : List mg_E := [(0, .aload_n 0, 1, []), (1, .getfield 12, 3, [2, 0, 0, 216]), (4, .iload_n 1, 1, []), (5, .invokevirtual 145, 3, [206, 1, 325]), (8, .aload_n 0, 1, []), (9, .getfield 21, 3, [2, 1, 0, 218]), (12, .iload_n 1, 1, []), (13, .invokevirtual 148, 3, [149, 1, 340]), (16, .aload_n 0, 1, []), (17, .getfield 30, 3, [2, 2, 0, 220]), (20, .iload_n 1, 1, []), (21, .invokevirtual 149, 3, [190, 1, 345]), (24, .aload_n 0, 1, []), (25, .getfield 34, 3, [2, 3, 0, 222]), (28, .iload_n 1, 1, []), (29, .invokevirtual 149, 3, [190, 1, 345]), (32, .return_, 1, [])]
/-- CustomsDesk$Office.bringFrom(I)V -/
def mk_165 : List mg_E := [(0, .aload_n 0, 1, []), (1, .getfield 12, 3, [2, 0, 0, 216]), (4, .iload_n 1, 1, []), (5, .invokevirtual 150, 3, [207, 1, 1171]), (8, .aload_n 0, 1, []), (9, .getfield 21, 3, [2, 1, 0, 218]), (12, .iload_n 1, 1, []), (13, .invokevirtual 153, 3, [150, 1, 1179]), (16, .aload_n 0, 1, []), (17, .getfield 30, 3, [2, 2, 0, 220]), (20, .iload_n 1, 1, []), (21, .invokevirtual 154, 3, [191, 1, 1184]), (24, .aload_n 0, 1, []), (25, .getfield 34, 3, [2, 3, 0, 222]), (28, .iload_n 1, 1, []), (29, .invokevirtual 154, 3, [191, 1, 1184]), (32, .return_, 1, [])]
/-- CustomsDesk$Office.loadGoods(I)V -/
def mk_166 : List mg_E := [(0, .aload_n 0, 1, []), (1, .getfield 40, 3, [2, 4, 0, 224]), (4, .aload_n 0, 1, []), (5, .getfield 34, 3, [2, 3, 0, 222]), (8, .iload_n 1, 1, []), (9, .iconst 0, 1, []), (10, .invokevirtual 66, 3, [184, 2, 823]), (13, .aload_n 0, 1, []), (14, .getfield 34, 3, [2, 3, 0, 222]), (17, .iload_n 1, 1, []), (18, .iconst 3, 1, []), (19, .invokevirtual 66, 3, [184, 2, 823]), (22, .aload_n 0, 1, []), (23, .getfield 34, 3, [2, 3, 0, 222]), (26, .iload_n 1, 1, []), (27, .iconst 2, 1, []), (28, .invokevirtual 66, 3, [184, 2, 823]), (31, .aload_n 0, 1, []), (32, .getfield 34, 3, [2, 3, 0, 222]), (35, .iload_n 1, 1, []), (36, .iconst 4, 1, []), (37, .invokevirtual 66, 3, [184, 2, 823]), (40, .aload_n 0, 1, []), (41, .getfield 34, 3, [2, 3, 0, 222]), (44, .iload_n 1, 1, []), (45, .bipush 6, 2, []), (47, .invokevirtual 66, 3, [184, 2, 823]), (50, .invokevirtual 155, 3, [142, 5, 833]), (53, .return_, 1, [])]
/-- CustomsDesk$Office.isClaimOn(II)Z -/
def mk_167 : List mg_E := [(0, .aload_n 0, 1, []), (1, .iload_n 1, 1, []), (2, .iconst 0, 1, []), (3, .invokevirtual 73, 3, [153, 2, 853]), (6, .ifCond .eq 20, 3, [26]), (9, .aload_n 0, 1, []), (10, .getfield 34, 3, [2, 3, 0, 222]), (13, .iload_n 1, 1, []), (14, .iconst 5, 1, []), (15, .invokevirtual 66, 3, [184, 2, 823]), (18, .iload_n 2, 1, []), (19, .if_icmp .ne 7, 3, [26]), (22, .iconst 1, 1, []), (23, .goto 4, 3, [27]), (26, .iconst 0, 1, []), (27, .ireturn, 1, [])]
/-- CustomsDesk$Office.isGoodClaimOn(II)Z -/
def mk_168 : List mg_E := [(0, .aload_n 0, 1, []), (1, .iload_n 1, 1, []), (2, .iload_n 2, 1, []), (3, .invokevirtual 101, 3, [167, 2, 849]), (6, .ifCond .eq 20, 3, [26]), (9, .aload_n 0, 1, []), (10, .getfield 34, 3, [2, 3, 0, 222]), (13, .iload_n 1, 1, []), (14, .bipush 14, 2, []), (16, .invokevirtual 66, 3, [184, 2, 823]), (19, .ifCond .ne 7, 3, [26]), (22, .iconst 1, 1, []), (23, .goto 4, 3, [27]), (26, .iconst 0, 1, []), (27, .ireturn, 1, [])]
/-- CustomsDesk$Office.giveSpareUnits(II)V -/
def mk_169 : List mg_E := [(0, .iload_n 2, 1, []), (1, .istore_n 3, 1, []), (2, .iconst 0, 1, []), (3, .istore 4, 2, []), (5, .iload 4, 2, []), (7, .aload_n 0, 1, []), (8, .getfield 34, 3, [2, 3, 0, 222]), (11, .invokevirtual 70, 3, [181, 0, 848]), (14, .if_icmp .ge 38, 3, [52]), (17, .iload_n 3, 1, []), (18, .ifCond .le 34, 3, [52]), (21, .aload_n 0, 1, []), (22, .iload 4, 2, []), (24, .iload_n 1, 1, []), (25, .invokevirtual 112, 3, [168, 2, 869]), (28, .ifCond .eq 18, 3, [46]), (31, .aload_n 0, 1, []), (32, .getfield 34, 3, [2, 3, 0, 222]), (35, .iload 4, 2, []), (37, .bipush 8, 2, []), (39, .iconst 1, 1, []), (40, .invokevirtual 123, 3, [186, 3, 880]), (43, .iinc 3 (-1), 3, []), (46, .iinc 4 1, 3, []), (49, .goto (-44), 3, [5]), (52, .return_, 1, [])]
/-- CustomsDesk$Office.assess(I)V -/
def mk_170 : List mg_E := [(0, .aload_n 0, 1, []), (1, .iload_n 1, 1, []), (2, .invokevirtual 77, 3, [166, 1, 829]), (5, .aload_n 0, 1, []), (6, .getfield 34, 3, [2, 3, 0, 222]), (9, .iload_n 1, 1, []), (10, .iconst 5, 1, []), (11, .invokevirtual 66, 3, [184, 2, 823]), (14, .istore_n 2, 1, []), (15, .aload_n 0, 1, []), (16, .getfield 12, 3, [2, 0, 0, 216]), (19, .aload_n 0, 1, []), (20, .getfield 40, 3, [2, 4, 0, 224]), (23, .invokevirtual 97, 3, [203, 1, 836]), (26, .istore_n 3, 1, []), (27, .aload_n 0, 1, []), (28, .iload_n 1, 1, []), (29, .invokevirtual 159, 3, [171, 1, 892]), (32, .aload_n 0, 1, []), (33, .getfield 30, 3, [2, 2, 0, 220]), (36, .iload_n 2, 1, []), (37, .iconst 3, 1, []), (38, .invokevirtual 66, 3, [184, 2, 823]), (41, .imul, 1, []), (42, .sipush 1000, 3, []), (45, .idiv, 1, []), (46, .istore 4, 2, []), (48, .aload_n 0, 1, []), (49, .iload_n 1, 1, []), (50, .iload_n 3, 1, []), (51, .invokevirtual 138, 3, [172, 2, 896]), (54, .istore 5, 2, []), (56, .aload_n 0, 1, []), (57, .getfield 34, 3, [2, 3, 0, 222]), (60, .iload_n 1, 1, []), (61, .bipush 9, 2, []), (63, .iload 4, 2, []), (65, .invokevirtual 48, 3, [185, 3, 794]), (68, .aload_n 0, 1, []), (69, .getfield 34, 3, [2, 3, 0, 222]), (72, .iload_n 1, 1, []), (73, .bipush 10, 2, []), (75, .iload 5, 2, []), (77, .invokevirtual 48, 3, [185, 3, 794]), (80, .aload_n 0, 1, []), (81, .getfield 34, 3, [2, 3, 0, 222]), (84, .iload_n 1, 1, []), (85, .bipush 12, 2, []), (87, .iload_n 3, 1, []), (88, .invokevirtual 48, 3, [185, 3, 794]), (91, .aload_n 0, 1, []), (92, .getfield 34, 3, [2, 3, 0, 222]), (95, .iload_n 1, 1, []), (96, .bipush 13, 2, []), (98, .aload_n 0, 1, []), (99, .getfield 12, 3, [2, 0, 0, 216]), (102, .iload_n 3, 1, []), (103, .aload_n 0, 1, []), (104, .getfield 40, 3, [2, 4, 0, 224]), (107, .invokevirtual 141, 3, [204, 2, 900]), (110, .invokevirtual 48, 3, [185, 3, 794]), (113, .aload_n 0, 1, []), (114, .getfield 34, 3, [2, 3, 0, 222]), (117, .iload_n 1, 1, []), (118, .bipush 7, 2, []), (120, .iconst 1, 1, []), (121, .invokevirtual 48, 3, [185, 3, 794]), (124, .aload_n 0, 1, []), (125, .getfield 21, 3, [2, 1, 0, 218]), (128, .aload_n 0, 1, []), (129, .getfield 40, 3, [2, 4, 0, 224]), (132, .getfield 88, 3, [0, 1, 1, 196]), (135, .iload 4, 2, []), (137, .iload 5, 2, []), (139, .iadd, 1, []), (140, .invokevirtual 162, 3, [147, 2, 901]), (143, .return_, 1, [])]
/-- CustomsDesk$Office.valueInQuota(I)I -/
def mk_171 : List mg_E := [(0, .aload_n 0, 1, []), (1, .getfield 34, 3, [2, 3, 0, 222]), (4, .iload_n 1, 1, []), (5, .iconst 2, 1, []), (6, .invokevirtual 66, 3, [184, 2, 823]), (9, .aload_n 0, 1, []), (10, .getfield 34, 3, [2, 3, 0, 222]), (13, .iload_n 1, 1, []), (14, .bipush 8, 2, []), (16, .invokevirtual 66, 3, [184, 2, 823]), (19, .aload_n 0, 1, []), (20, .getfield 34, 3, [2, 3, 0, 222]), (23, .iload_n 1, 1, []), (24, .iconst 1, 1, []), (25, .invokevirtual 66, 3, [184, 2, 823]), (28, .invokestatic 115, 3, [1, 55, 3, 873]), (31, .ireturn, 1, [])]
/-- CustomsDesk$Office.secondPart(II)I -/
def mk_172 : List mg_E := [(0, .aload_n 0, 1, []), (1, .getfield 34, 3, [2, 3, 0, 222]), (4, .iload_n 1, 1, []), (5, .iconst 2, 1, []), (6, .invokevirtual 66, 3, [184, 2, 823]), (9, .aload_n 0, 1, []), (10, .iload_n 1, 1, []), (11, .invokevirtual 159, 3, [171, 1, 892]), (14, .isub, 1, []), (15, .iload_n 2, 1, []), (16, .imul, 1, []), (17, .sipush 1000, 3, []), (20, .idiv, 1, []), (21, .ireturn, 1, [])]
/-- CustomsDesk$Office.giveBack(II)V -/
def mk_173 : List mg_E := [(0, .aload_n 0, 1, []), (1, .getfield 34, 3, [2, 3, 0, 222]), (4, .iload_n 1, 1, []), (5, .bipush 11, 2, []), (7, .iload_n 2, 1, []), (8, .invokevirtual 123, 3, [186, 3, 880]), (11, .aload_n 0, 1, []), (12, .getfield 21, 3, [2, 1, 0, 218]), (15, .aload_n 0, 1, []), (16, .getfield 34, 3, [2, 3, 0, 222]), (19, .iload_n 1, 1, []), (20, .iconst 3, 1, []), (21, .invokevirtual 66, 3, [184, 2, 823]), (24, .iload_n 2, 1, []), (25, .invokevirtual 165, 3, [148, 2, 950]), (28, .return_, 1, [])]
/-- CustomsDesk$Office.returnUnits(I)V -/
def mk_174 : List mg_E := [(0, .aload_n 0, 1, []), (1, .getfield 34, 3, [2, 3, 0, 222]), (4, .iload_n 1, 1, []), (5, .iconst 5, 1, []), (6, .invokevirtual 66, 3, [184, 2, 823]), (9, .istore_n 2, 1, []), (10, .aload_n 0, 1, []), (11, .getfield 34, 3, [2, 3, 0, 222]), (14, .iload_n 1, 1, []), (15, .bipush 8, 2, []), (17, .invokevirtual 66, 3, [184, 2, 823]), (20, .istore_n 3, 1, []), (21, .aload_n 0, 1, []), (22, .getfield 21, 3, [2, 1, 0, 218]), (25, .invokevirtual 63, 3, [144, 0, 798]), (28, .aload_n 0, 1, []), (29, .getfield 30, 3, [2, 2, 0, 220]), (32, .iload_n 2, 1, []), (33, .iconst 5, 1, []), (34, .invokevirtual 66, 3, [184, 2, 823]), (37, .if_icmp .le 7, 3, [44]), (40, .iconst 1, 1, []), (41, .goto 4, 3, [45]), (44, .iconst 0, 1, []), (45, .istore 4, 2, []), (47, .aload_n 0, 1, []), (48, .getfield 30, 3, [2, 2, 0, 220]), (51, .iload_n 2, 1, []), (52, .bipush 7, 2, []), (54, .iload_n 3, 1, []), (55, .ineg, 1, []), (56, .invokevirtual 123, 3, [186, 3, 880]), (59, .aload_n 0, 1, []), (60, .getfield 30, 3, [2, 2, 0, 220]), (63, .iload_n 2, 1, []), (64, .iload 4, 2, []), (66, .ifCond .eq 8, 3, [74]), (69, .bipush 8, 2, []), (71, .goto 5, 3, [76]), (74, .bipush 6, 2, []), (76, .iload_n 3, 1, []), (77, .invokevirtual 123, 3, [186, 3, 880]), (80, .aload_n 0, 1, []), (81, .getfield 34, 3, [2, 3, 0, 222]), (84, .iload_n 1, 1, []), (85, .bipush 8, 2, []), (87, .iconst 0, 1, []), (88, .invokevirtual 48, 3, [185, 3, 794]), (91, .return_, 1, [])]
/-- CustomsDesk$Parts.<init>(I)V -/
def mk_175 : List mg_E := [(0, .aload_n 0, 1, []), (1, .invokespecial 3, 3, [2, 242]), (4, .aload_n 0, 1, []), (5, .new 9, 3, [0, 4, 243]), (8, .dup, 1, []), (9, .iconst 4, 1, []), (10, .iconst 2, 1, []), (11, .iload_n 1, 1, []), (12, .invokespecial 11, 3, [0, 180, 3, 244]), (15, .putfield 14, 3, [3, 0, 0, 245]), (18, .return_, 1, [])]
/-- CustomsDesk$Parts.addPart(II)V -/
def mk_176 : List mg_E := [(0, .aload_n 0, 1, []), (1, .getfield 14, 3, [3, 0, 0, 245]), (4, .invokevirtual 20, 3, [187, 0, 756]), (7, .istore_n 3, 1, []), (8, .aload_n 0, 1, []), (9, .getfield 14, 3, [3, 0, 0, 245]), (12, .iload_n 3, 1, []), (13, .iconst 0, 1, []), (14, .iload_n 1, 1, []), (15, .invokevirtual 24, 3, [185, 3, 757]), (18, .aload_n 0, 1, []), (19, .getfield 14, 3, [3, 0, 0, 245]), (22, .iload_n 3, 1, []), (23, .iconst 1, 1, []), (24, .iload_n 2, 1, []), (25, .invokevirtual 24, 3, [185, 3, 757]), (28, .return_, 1, [])]
/-- CustomsDesk$Parts.wholeValue()I -/
def mk_177 : List mg_E := [(0, .iconst 0, 1, []), (1, .istore_n 1, 1, []), (2, .iconst 0, 1, []), (3, .istore_n 2, 1, []), (4, .iload_n 2, 1, []), (5, .aload_n 0, 1, []), (6, .getfield 14, 3, [3, 0, 0, 245]), (9, .invokevirtual 27, 3, [181, 0, 774]), (12, .if_icmp .ge 21, 3, [33]), (15, .iload_n 1, 1, []), (16, .aload_n 0, 1, []), (17, .getfield 14, 3, [3, 0, 0, 245]), (20, .iload_n 2, 1, []), (21, .iconst 1, 1, []), (22, .invokevirtual 30, 3, [184, 2, 775]), (25, .iadd, 1, []), (26, .istore_n 1, 1, []), (27, .iinc 2 1, 3, []), (30, .goto (-26), 3, [4]), (33, .iload_n 1, 1, []), (34, .ireturn, 1, [])]
/-- CustomsDesk$Parts.amountOf(I)I -/
def mk_178 : List mg_E := [(0, .iconst 0, 1, []), (1, .istore_n 2, 1, []), (2, .iconst 0, 1, []), (3, .istore_n 3, 1, []), (4, .iload_n 3, 1, []), (5, .aload_n 0, 1, []), (6, .getfield 14, 3, [3, 0, 0, 245]), (9, .invokevirtual 27, 3, [181, 0, 774]), (12, .if_icmp .ge 34, 3, [46]), (15, .aload_n 0, 1, []), (16, .getfield 14, 3, [3, 0, 0, 245]), (19, .iload_n 3, 1, []), (20, .iconst 0, 1, []), (21, .invokevirtual 30, 3, [184, 2, 775]), (24, .iload_n 1, 1, []), (25, .if_icmp .ne 15, 3, [40]), (28, .iload_n 2, 1, []), (29, .aload_n 0, 1, []), (30, .getfield 14, 3, [3, 0, 0, 245]), (33, .iload_n 3, 1, []), (34, .iconst 1, 1, []), (35, .invokevirtual 30, 3, [184, 2, 775]), (38, .iadd, 1, []), (39, .istore_n 2, 1, []), (40, .iinc 3 1, 3, []), (43, .goto (-39), 3, [4]), (46, .iload_n 2, 1, []), (47, .ireturn, 1, [])]
/-- CustomsDesk$Parts.originBy(I)I -/
def mk_179 : List mg_E := [(0, .iload_n 1, 1, []), (1, .aload_n 0, 1, []), (2, .invokevirtual 34, 3, [177, 0, 770]), (5, .imul, 1, []), (6, .istore_n 2, 1, []), (7, .iconst 0, 1, []), (8, .istore_n 3, 1, []), (9, .aload_n 0, 1, []), (10, .getfield 14, 3, [3, 0, 0, 245]), (13, .aload_n 0, 1, []), (14, .getfield 14, 3, [3, 0, 0, 245]), (17, .invokevirtual 27, 3, [181, 0, 774]), (20, .iconst 1, 1, []), (21, .isub, 1, []), (22, .iconst 0, 1, []), (23, .invokevirtual 30, 3, [184, 2, 775]), (26, .istore 4, 2, []), (28, .iconst 0, 1, []), (29, .istore 5, 2, []), (31, .iload 5, 2, []), (33, .bipush 8, 2, []), (35, .if_icmp .ge 39, 3, [74]), (38, .aload_n 0, 1, []), (39, .iload 5, 2, []), (41, .invokevirtual 37, 3, [178, 1, 776]), (44, .istore 6, 2, []), (46, .iload 6, 2, []), (48, .iload_n 3, 1, []), (49, .if_icmp .le 19, 3, [68]), (52, .iload 6, 2, []), (54, .bipush 100, 2, []), (56, .imul, 1, []), (57, .iload_n 2, 1, []), (58, .if_icmp .lt 10, 3, [68]), (61, .iload 6, 2, []), (63, .istore_n 3, 1, []), (64, .iload 5, 2, []), (66, .istore 4, 2, []), (68, .iinc 5 1, 3, []), (71, .goto (-40), 3, [31]), (74, .iload 4, 2, []), (76, .ireturn, 1, [])]
/-- CustomsDesk$Table.<init>(III)V -/
def mk_180 : List mg_E := [(0, .aload_n 0, 1, []), (1, .invokespecial 3, 3, [2, 128]), (4, .aload_n 0, 1, []), (5, .iconst 0, 1, []), (6, .iload_n 1, 1, []), (7, .invokestatic 9, 3, [3, 129]), (10, .putfield 15, 3, [4, 0, 0, 132]), (13, .aload_n 0, 1, []), (14, .iconst 0, 1, []), (15, .iload_n 2, 1, []), (16, .invokestatic 9, 3, [3, 129]), (19, .putfield 21, 3, [4, 1, 0, 133]), (22, .aload_n 0, 1, []), (23, .iconst 1, 1, []), (24, .iconst 1, 1, []), (25, .aload_n 0, 1, []), (26, .getfield 15, 3, [4, 0, 0, 132]), (29, .aload_n 0, 1, []), (30, .getfield 21, 3, [4, 1, 0, 133]), (33, .imul, 1, []), (34, .iadd, 1, []), (35, .invokestatic 9, 3, [3, 129]), (38, .newarray .int, 2, [0]), (40, .putfield 24, 3, [4, 2, 0, 134]), (43, .aload_n 0, 1, []), (44, .iconst 0, 1, []), (45, .iload_n 3, 1, []), (46, .aload_n 0, 1, []), (47, .getfield 24, 3, [4, 2, 0, 134]), (50, .arraylength, 1, []), (51, .imul, 1, []), (52, .invokestatic 9, 3, [3, 129]), (55, .newarray .int, 2, [0]), (57, .putfield 28, 3, [4, 3, 0, 135]), (60, .return_, 1, [])]
/-- CustomsDesk$Table.count()I -/
def mk_181 : List mg_E := [(0, .aload_n 0, 1, []), (1, .getfield 24, 3, [4, 2, 0, 134]), (4, .arraylength, 1, []), (5, .ifCond .le 12, 3, [17]), (8, .aload_n 0, 1, []), (9, .getfield 24, 3, [4, 2, 0, 134]), (12, .iconst 0, 1, []), (13, .iaload, 1, []), (14, .goto 4, 3, [18]), (17, .iconst 0, 1, []), (18, .ireturn, 1, [])]
/-- CustomsDesk$Table.has(I)Z -/
def mk_182 : List mg_E := [(0, .iload_n 1, 1, []), (1, .ifCond .lt 15, 3, [16]), (4, .iload_n 1, 1, []), (5, .aload_n 0, 1, []), (6, .invokevirtual 31, 3, [181, 0, 463]), (9, .if_icmp .ge 7, 3, [16]), (12, .iconst 1, 1, []), (13, .goto 4, 3, [17]), (16, .iconst 0, 1, []), (17, .ireturn, 1, [])]
/-- CustomsDesk$Table.isFull()Z -/
def mk_183 : List mg_E := [(0, .aload_n 0, 1, []), (1, .invokevirtual 31, 3, [181, 0, 463]), (4, .aload_n 0, 1, []), (5, .getfield 15, 3, [4, 0, 0, 132]), (8, .if_icmp .lt 7, 3, [15]), (11, .iconst 1, 1, []), (12, .goto 4, 3, [16]), (15, .iconst 0, 1, []), (16, .ireturn, 1, [])]
/-- CustomsDesk$Table.get(II)I -/
def mk_184 : List mg_E := [(0, .iload_n 1, 1, []), (1, .ifCond .lt 23, 3, [24]), (4, .iload_n 1, 1, []), (5, .aload_n 0, 1, []), (6, .getfield 15, 3, [4, 0, 0, 132]), (9, .if_icmp .ge 15, 3, [24]), (12, .iload_n 2, 1, []), (13, .ifCond .lt 11, 3, [24]), (16, .iload_n 2, 1, []), (17, .aload_n 0, 1, []), (18, .getfield 21, 3, [4, 1, 0, 133]), (21, .if_icmp .lt 5, 3, [26]), (24, .iconst 0, 1, []), (25, .ireturn, 1, []), (26, .iconst 1, 1, []), (27, .iload_n 1, 1, []), (28, .aload_n 0, 1, []), (29, .getfield 21, 3, [4, 1, 0, 133]), (32, .imul, 1, []), (33, .iadd, 1, []), (34, .iload_n 2, 1, []), (35, .iadd, 1, []), (36, .istore_n 3, 1, []), (37, .iload_n 3, 1, []), (38, .ifCond .lt 21, 3, [59]), (41, .iload_n 3, 1, []), (42, .aload_n 0, 1, []), (43, .getfield 24, 3, [4, 2, 0, 134]), (46, .arraylength, 1, []), (47, .if_icmp .ge 12, 3, [59]), (50, .aload_n 0, 1, []), (51, .getfield 24, 3, [4, 2, 0, 134]), (54, .iload_n 3, 1, []), (55, .iaload, 1, []), (56, .goto 4, 3, [60]), (59, .iconst 0, 1, []), (60, .ireturn, 1, [])]
/-- CustomsDesk$Table.put(III)V -/
def mk_185 : List mg_E := [(0, .iload_n 1, 1, []), (1, .ifCond .lt 23, 3, [24]), (4, .iload_n 1, 1, []), (5, .aload_n 0, 1, []), (6, .getfield 15, 3, [4, 0, 0, 132]), (9, .if_icmp .ge 15, 3, [24]), (12, .iload_n 2, 1, []), (13, .ifCond .lt 11, 3, [24]), (16, .iload_n 2, 1, []), (17, .aload_n 0, 1, []), (18, .getfield 21, 3, [4, 1, 0, 133]), (21, .if_icmp .lt 4, 3, [25]), (24, .return_, 1, []), (25, .iconst 1, 1, []), (26, .iload_n 1, 1, []), (27, .aload_n 0, 1, []), (28, .getfield 21, 3, [4, 1, 0, 133]), (31, .imul, 1, []), (32, .iadd, 1, []), (33, .iload_n 2, 1, []), (34, .iadd, 1, []), (35, .istore 4, 2, []), (37, .iload 4, 2, []), (39, .ifCond .lt 21, 3, [60]), (42, .iload 4, 2, []), (44, .aload_n 0, 1, []), (45, .getfield 24, 3, [4, 2, 0, 134]), (48, .arraylength, 1, []), (49, .if_icmp .ge 11, 3, [60]), (52, .aload_n 0, 1, []), (53, .getfield 24, 3, [4, 2, 0, 134]), (56, .iload 4, 2, []), (58, .iload_n 3, 1, []), (59, .iastore, 1, []), (60, .return_, 1, [])]
/-- CustomsDesk$Table.increase(III)V -/
def mk_186 : List mg_E := [(0, .aload_n 0, 1, []), (1, .iload_n 1, 1, []), (2, .iload_n 2, 1, []), (3, .aload_n 0, 1, []), (4, .iload_n 1, 1, []), (5, .iload_n 2, 1, []), (6, .invokevirtual 35, 3, [184, 2, 627]), (9, .iload_n 3, 1, []), (10, .iadd, 1, []), (11, .invokevirtual 38, 3, [185, 3, 533]), (14, .return_, 1, [])]
/-- CustomsDesk$Table.add()I -/
def mk_187 : List mg_E := [(0, .aload_n 0, 1, []), (1, .invokevirtual 31, 3, [181, 0, 463]), (4, .istore_n 1, 1, []), (5, .iload_n 1, 1, []), (6, .aload_n 0, 1, []), (7, .getfield 15, 3, [4, 0, 0, 132]), (10, .if_icmp .lt 5, 3, [15]), (13, .iconst (-1), 1, []), (14, .ireturn, 1, []), (15, .iconst 0, 1, []), (16, .istore_n 2, 1, []), (17, .iload_n 2, 1, []), (18, .aload_n 0, 1, []), (19, .getfield 21, 3, [4, 1, 0, 133]), (22, .if_icmp .ge 16, 3, [38]), (25, .aload_n 0, 1, []), (26, .iload_n 1, 1, []), (27, .iload_n 2, 1, []), (28, .iconst 0, 1, []), (29, .invokevirtual 38, 3, [185, 3, 533]), (32, .iinc 2 1, 3, []), (35, .goto (-18), 3, [17]), (38, .aload_n 0, 1, []), (39, .iload_n 1, 1, []), (40, .iconst 1, 1, []), (41, .iadd, 1, []), (42, .invokevirtual 42, 3, [193, 1, 358]), (45, .iload_n 1, 1, []), (46, .ireturn, 1, [])]
/-- CustomsDesk$Table.remove(I)V -/
def mk_188 : List mg_E := [(0, .aload_n 0, 1, []), (1, .invokevirtual 31, 3, [181, 0, 463]), (4, .iconst 1, 1, []), (5, .isub, 1, []), (6, .istore_n 2, 1, []), (7, .iload_n 1, 1, []), (8, .ifCond .lt 8, 3, [16]), (11, .iload_n 1, 1, []), (12, .iload_n 2, 1, []), (13, .if_icmp .le 4, 3, [17]), (16, .return_, 1, []), (17, .iload_n 1, 1, []), (18, .istore_n 3, 1, []), (19, .iload_n 3, 1, []), (20, .iload_n 2, 1, []), (21, .if_icmp .ge 43, 3, [64]), (24, .iconst 0, 1, []), (25, .istore 4, 2, []), (27, .iload 4, 2, []), (29, .aload_n 0, 1, []), (30, .getfield 21, 3, [4, 1, 0, 133]), (33, .if_icmp .ge 25, 3, [58]), (36, .aload_n 0, 1, []), (37, .iload_n 3, 1, []), (38, .iload 4, 2, []), (40, .aload_n 0, 1, []), (41, .iload_n 3, 1, []), (42, .iconst 1, 1, []), (43, .iadd, 1, []), (44, .iload 4, 2, []), (46, .invokevirtual 35, 3, [184, 2, 627]), (49, .invokevirtual 38, 3, [185, 3, 533]), (52, .iinc 4 1, 3, []), (55, .goto (-28), 3, [27]), (58, .iinc 3 1, 3, []), (61, .goto (-42), 3, [19]), (64, .aload_n 0, 1, []), (65, .iload_n 2, 1, []), (66, .invokevirtual 42, 3, [193, 1, 358]), (69, .return_, 1, [])]
/-- CustomsDesk$Table.clear()V -/
def mk_189 : List mg_E := [(0, .aload_n 0, 1, []), (1, .iconst 0, 1, []), (2, .invokevirtual 42, 3, [193, 1, 358]), (5, .return_, 1, [])]
/-- CustomsDesk$Table.keepIn(I)V -/
def mk_190 : List mg_E := [(0, .aload_n 0, 1, []), (1, .iload_n 1, 1, []), (2, .invokevirtual 46, 3, [192, 1, 333]), (5, .ifCond .eq 27, 3, [32]), (8, .aload_n 0, 1, []), (9, .getfield 24, 3, [4, 2, 0, 134]), (12, .iconst 0, 1, []), (13, .aload_n 0, 1, []), (14, .getfield 28, 3, [4, 3, 0, 135]), (17, .iload_n 1, 1, []), (18, .aload_n 0, 1, []), (19, .getfield 24, 3, [4, 2, 0, 134]), (22, .arraylength, 1, []), (23, .imul, 1, []), (24, .aload_n 0, 1, []), (25, .getfield 24, 3, [4, 2, 0, 134]), (28, .arraylength, 1, []), (29, .invokestatic 50, 3, [5, 337]), (32, .return_, 1, [])]
/-- CustomsDesk$Table.bringFrom(I)V -/
def mk_191 : List mg_E := [(0, .aload_n 0, 1, []), (1, .iload_n 1, 1, []), (2, .invokevirtual 46, 3, [192, 1, 333]), (5, .ifCond .eq 27, 3, [32]), (8, .aload_n 0, 1, []), (9, .getfield 28, 3, [4, 3, 0, 135]), (12, .iload_n 1, 1, []), (13, .aload_n 0, 1, []), (14, .getfield 24, 3, [4, 2, 0, 134]), (17, .arraylength, 1, []), (18, .imul, 1, []), (19, .aload_n 0, 1, []), (20, .getfield 24, 3, [4, 2, 0, 134]), (23, .iconst 0, 1, []), (24, .aload_n 0, 1, []), (25, .getfield 24, 3, [4, 2, 0, 134]), (28, .arraylength, 1, []), (29, .invokestatic 50, 3, [5, 337]), (32, .return_, 1, [])]
/-- CustomsDesk$Table.hasSlot(I)Z -/
def mk_192 : List mg_E := [(0, .iload_n 1, 1, []), (1, .ifCond .lt 30, 3, [31]), (4, .iload_n 1, 1, []), (5, .bipush 9, 2, []), (7, .if_icmp .ge 24, 3, [31]), (10, .iload_n 1, 1, []), (11, .iconst 1, 1, []), (12, .iadd, 1, []), (13, .aload_n 0, 1, []), (14, .getfield 24, 3, [4, 2, 0, 134]), (17, .arraylength, 1, []), (18, .imul, 1, []), (19, .aload_n 0, 1, []), (20, .getfield 28, 3, [4, 3, 0, 135]), (23, .arraylength, 1, []), (24, .if_icmp .gt 7, 3, [31]), (27, .iconst 1, 1, []), (28, .goto 4, 3, [32]), (31, .iconst 0, 1, []), (32, .ireturn, 1, [])]
/-- CustomsDesk$Table.setCount(I)V -/
def mk_193 : List mg_E := [(0, .aload_n 0, 1, []), (1, .getfield 24, 3, [4, 2, 0, 134]), (4, .arraylength, 1, []), (5, .ifCond .le 10, 3, [15]), (8, .aload_n 0, 1, []), (9, .getfield 24, 3, [4, 2, 0, 134]), (12, .iconst 0, 1, []), (13, .iload_n 1, 1, []), (14, .iastore, 1, []), (15, .return_, 1, [])]
/-- CustomsDesk$Tariff.<init>()V -/
def mk_194 : List mg_E := [(0, .aload_n 0, 1, []), (1, .invokespecial 3, 3, [2, 122]), (4, .aload_n 0, 1, []), (5, .new 9, 3, [0, 4, 123]), (8, .dup, 1, []), (9, .bipush 20, 2, []), (11, .iconst 3, 1, []), (12, .bipush 9, 2, []), (14, .invokespecial 11, 3, [0, 180, 3, 125]), (17, .putfield 14, 3, [5, 0, 0, 150]), (20, .aload_n 0, 1, []), (21, .new 9, 3, [0, 4, 123]), (24, .dup, 1, []), (25, .bipush 10, 2, []), (27, .iconst 4, 1, []), (28, .bipush 9, 2, []), (30, .invokespecial 11, 3, [0, 180, 3, 125]), (33, .putfield 20, 3, [5, 1, 0, 152]), (36, .aload_n 0, 1, []), (37, .new 9, 3, [0, 4, 123]), (40, .dup, 1, []), (41, .bipush 6, 2, []), (43, .iconst 3, 1, []), (44, .bipush 9, 2, []), (46, .invokespecial 11, 3, [0, 180, 3, 125]), (49, .putfield 23, 3, [5, 2, 0, 154]), (52, .aload_n 0, 1, []), (53, .new 9, 3, [0, 4, 123]), (56, .dup, 1, []), (57, .iconst 3, 1, []), (58, .iconst 1, 1, []), (59, .bipush 9, 2, []), (61, .invokespecial 11, 3, [0, 180, 3, 125]), (64, .putfield 26, 3, [5, 3, 0, 156]), (67, .aload_n 0, 1, []), (68, .getfield 26, 3, [5, 3, 0, 156]), (71, .iconst 0, 1, []), (72, .iconst 0, 1, []), (73, .bipush 50, 2, []), (75, .invokevirtual 29, 3, [185, 3, 146]), (78, .aload_n 0, 1, []), (79, .getfield 26, 3, [5, 3, 0, 156]), (82, .iconst 1, 1, []), (83, .iconst 0, 1, []), (84, .bipush 30, 2, []), (86, .invokevirtual 29, 3, [185, 3, 146]), (89, .aload_n 0, 1, []), (90, .getfield 26, 3, [5, 3, 0, 156]), (93, .iconst 2, 1, []), (94, .iconst 0, 1, []), (95, .sipush 600, 3, []), (98, .invokevirtual 29, 3, [185, 3, 146]), (101, .return_, 1, [])]
/-- CustomsDesk$Tariff.setting(I)I -/
def mk_195 : List mg_E := [(0, .aload_n 0, 1, []), (1, .getfield 26, 3, [5, 3, 0, 156]), (4, .iload_n 1, 1, []), (5, .iconst 0, 1, []), (6, .invokevirtual 32, 3, [184, 2, 485]), (9, .ireturn, 1, [])]
/-- CustomsDesk$Tariff.isTaken(II)Z -/
def mk_196 : List mg_E := [(0, .iconst 0, 1, []), (1, .istore_n 3, 1, []), (2, .iload_n 3, 1, []), (3, .aload_n 0, 1, []), (4, .getfield 14, 3, [5, 0, 0, 150]), (7, .invokevirtual 36, 3, [181, 0, 484]), (10, .if_icmp .ge 37, 3, [47]), (13, .aload_n 0, 1, []), (14, .getfield 14, 3, [5, 0, 0, 150]), (17, .iload_n 3, 1, []), (18, .iconst 0, 1, []), (19, .invokevirtual 32, 3, [184, 2, 485]), (22, .iload_n 1, 1, []), (23, .if_icmp .ne 18, 3, [41]), (26, .aload_n 0, 1, []), (27, .getfield 14, 3, [5, 0, 0, 150]), (30, .iload_n 3, 1, []), (31, .iconst 1, 1, []), (32, .invokevirtual 32, 3, [184, 2, 485]), (35, .iload_n 2, 1, []), (36, .if_icmp .ne 5, 3, [41]), (39, .iconst 1, 1, []), (40, .ireturn, 1, []), (41, .iinc 3 1, 3, []), (44, .goto (-42), 3, [2]), (47, .iconst 0, 1, []), (48, .ireturn, 1, [])]
/-- CustomsDesk$Tariff.levelOf(I)I -/
def mk_197 : List mg_E := [(0, .iconst 0, 1, []), (1, .istore_n 2, 1, []), (2, .iload_n 1, 1, []), (3, .istore_n 3, 1, []), (4, .iload_n 3, 1, []), (5, .iconst (-1), 1, []), (6, .if_icmp .eq 24, 3, [30]), (9, .iload_n 2, 1, []), (10, .iconst 4, 1, []), (11, .if_icmp .ge 19, 3, [30]), (14, .iinc 2 1, 3, []), (17, .aload_n 0, 1, []), (18, .getfield 14, 3, [5, 0, 0, 150]), (21, .iload_n 3, 1, []), (22, .iconst 0, 1, []), (23, .invokevirtual 32, 3, [184, 2, 485]), (26, .istore_n 3, 1, []), (27, .goto (-23), 3, [4]), (30, .iload_n 2, 1, []), (31, .ireturn, 1, [])]
/-- CustomsDesk$Tariff.codeOf(I)I -/
def mk_198 : List mg_E := [(0, .iconst 0, 1, []), (1, .istore_n 2, 1, []), (2, .iconst 1, 1, []), (3, .istore_n 3, 1, []), (4, .iload_n 1, 1, []), (5, .istore 4, 2, []), (7, .iconst 0, 1, []), (8, .istore 5, 2, []), (10, .iload 4, 2, []), (12, .iconst (-1), 1, []), (13, .if_icmp .eq 47, 3, [60]), (16, .iload 5, 2, []), (18, .iconst 4, 1, []), (19, .if_icmp .ge 41, 3, [60]), (22, .iload_n 2, 1, []), (23, .iload_n 3, 1, []), (24, .aload_n 0, 1, []), (25, .getfield 14, 3, [5, 0, 0, 150]), (28, .iload 4, 2, []), (30, .iconst 1, 1, []), (31, .invokevirtual 32, 3, [184, 2, 485]), (34, .imul, 1, []), (35, .iadd, 1, []), (36, .istore_n 2, 1, []), (37, .iload_n 3, 1, []), (38, .bipush 10, 2, []), (40, .imul, 1, []), (41, .istore_n 3, 1, []), (42, .aload_n 0, 1, []), (43, .getfield 14, 3, [5, 0, 0, 150]), (46, .iload 4, 2, []), (48, .iconst 0, 1, []), (49, .invokevirtual 32, 3, [184, 2, 485]), (52, .istore 4, 2, []), (54, .iinc 5 1, 3, []), (57, .goto (-47), 3, [10]), (60, .iload_n 2, 1, []), (61, .ireturn, 1, [])]
/-- CustomsDesk$Tariff.headingWithCode(I)I -/
def mk_199 : List mg_E := [(0, .iconst 0, 1, []), (1, .istore_n 2, 1, []), (2, .iload_n 2, 1, []), (3, .aload_n 0, 1, []), (4, .getfield 14, 3, [5, 0, 0, 150]), (7, .invokevirtual 36, 3, [181, 0, 484]), (10, .if_icmp .ge 20, 3, [30]), (13, .aload_n 0, 1, []), (14, .iload_n 2, 1, []), (15, .invokevirtual 40, 3, [198, 1, 581]), (18, .iload_n 1, 1, []), (19, .if_icmp .ne 5, 3, [24]), (22, .iload_n 2, 1, []), (23, .ireturn, 1, []), (24, .iinc 2 1, 3, []), (27, .goto (-25), 3, [2]), (30, .iconst (-1), 1, []), (31, .ireturn, 1, [])]
/-- CustomsDesk$Tariff.childrenOf(I)I -/
def mk_200 : List mg_E := [(0, .iconst 0, 1, []), (1, .istore_n 2, 1, []), (2, .iconst 0, 1, []), (3, .istore_n 3, 1, []), (4, .iload_n 3, 1, []), (5, .aload_n 0, 1, []), (6, .getfield 14, 3, [5, 0, 0, 150]), (9, .invokevirtual 36, 3, [181, 0, 484]), (12, .if_icmp .ge 25, 3, [37]), (15, .aload_n 0, 1, []), (16, .getfield 14, 3, [5, 0, 0, 150]), (19, .iload_n 3, 1, []), (20, .iconst 0, 1, []), (21, .invokevirtual 32, 3, [184, 2, 485]), (24, .iload_n 1, 1, []), (25, .if_icmp .ne 6, 3, [31]), (28, .iinc 2 1, 3, []), (31, .iinc 3 1, 3, []), (34, .goto (-30), 3, [4]), (37, .iload_n 2, 1, []), (38, .ireturn, 1, [])]
/-- CustomsDesk$Tariff.isUnder(II)Z -/
def mk_201 : List mg_E := [(0, .iload_n 1, 1, []), (1, .istore_n 3, 1, []), (2, .iconst 0, 1, []), (3, .istore 4, 2, []), (5, .iload_n 3, 1, []), (6, .iconst (-1), 1, []), (7, .if_icmp .eq 32, 3, [39]), (10, .iload 4, 2, []), (12, .iconst 4, 1, []), (13, .if_icmp .ge 26, 3, [39]), (16, .iload_n 3, 1, []), (17, .iload_n 2, 1, []), (18, .if_icmp .ne 5, 3, [23]), (21, .iconst 1, 1, []), (22, .ireturn, 1, []), (23, .aload_n 0, 1, []), (24, .getfield 14, 3, [5, 0, 0, 150]), (27, .iload_n 3, 1, []), (28, .iconst 0, 1, []), (29, .invokevirtual 32, 3, [184, 2, 485]), (32, .istore_n 3, 1, []), (33, .iinc 4 1, 3, []), (36, .goto (-31), 3, [5]), (39, .iconst 0, 1, []), (40, .ireturn, 1, [])]
/-- CustomsDesk$Tariff.rateOfHeading(I)I -/
def mk_202 : List mg_E := [(0, .iload_n 1, 1, []), (1, .istore_n 2, 1, []), (2, .iconst 0, 1, []), (3, .istore_n 3, 1, []), (4, .iload_n 2, 1, []), (5, .iconst (-1), 1, []), (6, .if_icmp .eq 44, 3, [50]), (9, .iload_n 3, 1, []), (10, .iconst 4, 1, []), (11, .if_icmp .ge 39, 3, [50]), (14, .aload_n 0, 1, []), (15, .getfield 14, 3, [5, 0, 0, 150]), (18, .iload_n 2, 1, []), (19, .iconst 2, 1, []), (20, .invokevirtual 32, 3, [184, 2, 485]), (23, .istore 4, 2, []), (25, .iload 4, 2, []), (27, .iconst (-1), 1, []), (28, .if_icmp .eq 6, 3, [34]), (31, .iload 4, 2, []), (33, .ireturn, 1, []), (34, .aload_n 0, 1, []), (35, .getfield 14, 3, [5, 0, 0, 150]), (38, .iload_n 2, 1, []), (39, .iconst 0, 1, []), (40, .invokevirtual 32, 3, [184, 2, 485]), (43, .istore_n 2, 1, []), (44, .iinc 3 1, 3, []), (47, .goto (-43), 3, [4]), (50, .iconst 0, 1, []), (51, .ireturn, 1, [])]
/-- CustomsDesk$Tariff.leastRate(LCustomsDesk$Goods;)I -/
def mk_203 : List mg_E := [(0, .aload_n 0, 1, []), (1, .aload_n 1, 1, []), (2, .invokevirtual 44, 3, [208, 1, 700]), (5, .ifCond .eq 5, 3, [10]), (8, .iconst 0, 1, []), (9, .ireturn, 1, []), (10, .aload_n 0, 1, []), (11, .aload_n 1, 1, []), (12, .getfield 48, 3, [0, 0, 1, 194]), (15, .invokevirtual 54, 3, [202, 1, 709]), (18, .aload_n 0, 1, []), (19, .aload_n 1, 1, []), (20, .invokevirtual 57, 3, [209, 1, 710]), (23, .invokestatic 61, 3, [4, 718]), (26, .ireturn, 1, [])]
/-- CustomsDesk$Tariff.sourceOf(ILCustomsDesk$Goods;)I -/
def mk_204 : List mg_E := [(0, .aload_n 0, 1, []), (1, .aload_n 2, 1, []), (2, .getfield 48, 3, [0, 0, 1, 194]), (5, .invokevirtual 54, 3, [202, 1, 709]), (8, .iload_n 1, 1, []), (9, .if_icmp .ne 5, 3, [14]), (12, .iconst 0, 1, []), (13, .ireturn, 1, []), (14, .aload_n 0, 1, []), (15, .aload_n 2, 1, []), (16, .invokevirtual 57, 3, [209, 1, 710]), (19, .iload_n 1, 1, []), (20, .if_icmp .ne 7, 3, [27]), (23, .iconst 1, 1, []), (24, .goto 4, 3, [28]), (27, .iconst 2, 1, []), (28, .ireturn, 1, [])]
/-- CustomsDesk$Tariff.bestMissed(LCustomsDesk$Goods;)I -/
def mk_205 : List mg_E := [(0, .iconst (-1), 1, []), (1, .istore_n 2, 1, []), (2, .aload_n 0, 1, []), (3, .aload_n 1, 1, []), (4, .invokevirtual 66, 3, [203, 1, 741]), (7, .istore_n 3, 1, []), (8, .iconst 0, 1, []), (9, .istore 4, 2, []), (11, .iload 4, 2, []), (13, .aload_n 0, 1, []), (14, .getfield 20, 3, [5, 1, 0, 152]), (17, .invokevirtual 36, 3, [181, 0, 484]), (20, .if_icmp .ge 81, 3, [101]), (23, .aload_n 0, 1, []), (24, .getfield 20, 3, [5, 1, 0, 152]), (27, .iload 4, 2, []), (29, .iconst 2, 1, []), (30, .invokevirtual 32, 3, [184, 2, 485]), (33, .istore 5, 2, []), (35, .iload 5, 2, []), (37, .iload_n 3, 1, []), (38, .if_icmp .ge 57, 3, [95]), (41, .aload_n 0, 1, []), (42, .getfield 20, 3, [5, 1, 0, 152]), (45, .iload 4, 2, []), (47, .iconst 1, 1, []), (48, .invokevirtual 32, 3, [184, 2, 485]), (51, .aload_n 1, 1, []), (52, .getfield 69, 3, [0, 1, 1, 197]), (55, .if_icmp .ne 40, 3, [95]), (58, .aload_n 0, 1, []), (59, .aload_n 1, 1, []), (60, .getfield 48, 3, [0, 0, 1, 194]), (63, .aload_n 0, 1, []), (64, .getfield 20, 3, [5, 1, 0, 152]), (67, .iload 4, 2, []), (69, .iconst 0, 1, []), (70, .invokevirtual 32, 3, [184, 2, 485]), (73, .invokevirtual 72, 3, [201, 2, 705]), (76, .ifCond .eq 19, 3, [95]), (79, .aload_n 0, 1, []), (80, .iload 4, 2, []), (82, .aload_n 1, 1, []), (83, .invokevirtual 76, 3, [210, 2, 714]), (86, .ifCond .ne 9, 3, [95]), (89, .iload 4, 2, []), (91, .istore_n 2, 1, []), (92, .iload 5, 2, []), (94, .istore_n 3, 1, []), (95, .iinc 4 1, 3, []), (98, .goto (-87), 3, [11]), (101, .iload_n 2, 1, []), (102, .ireturn, 1, [])]
/-- CustomsDesk$Tariff.keepIn(I)V -/
def mk_206 : List mg_E := [(0, .aload_n 0, 1, []), (1, .getfield 14, 3, [5, 0, 0, 150]), (4, .iload_n 1, 1, []), (5, .invokevirtual 80, 3, [190, 1, 329]), (8, .aload_n 0, 1, []), (9, .getfield 20, 3, [5, 1, 0, 152]), (12, .iload_n 1, 1, []), (13, .invokevirtual 80, 3, [190, 1, 329]), (16, .aload_n 0, 1, []), (17, .getfield 23, 3, [5, 2, 0, 154]), (20, .iload_n 1, 1, []), (21, .invokevirtual 80, 3, [190, 1, 329]), (24, .aload_n 0, 1, []), (25, .getfield 26, 3, [5, 3, 0, 156]), (28, .iload_n 1, 1, []), (29, .invokevirtual 80, 3, [190, 1, 329]), (32, .return_, 1, [])]
/-- CustomsDesk$Tariff.bringFrom(I)V -/
def mk_207 : List mg_E := [(0, .aload_n 0, 1, []), (1, .getfield 14, 3, [5, 0, 0, 150]), (4, .iload_n 1, 1, []), (5, .invokevirtual 84, 3, [191, 1, 1175]), (8, .aload_n 0, 1, []), (9, .getfield 20, 3, [5, 1, 0, 152]), (12, .iload_n 1, 1, []), (13, .invokevirtual 84, 3, [191, 1, 1175]), (16, .aload_n 0, 1, []), (17, .getfield 23, 3, [5, 2, 0, 154]), (20, .iload_n 1, 1, []), (21, .invokevirtual 84, 3, [191, 1, 1175]), (24, .aload_n 0, 1, []), (25, .getfield 26, 3, [5, 3, 0, 156]), (28, .iload_n 1, 1, []), (29, .invokevirtual 84, 3, [191, 1, 1175]), (32, .return_, 1, [])]
/-- CustomsDesk$Tariff.isSuspended(LCustomsDesk$Goods;)Z -/
def mk_208 : List mg_E := [(0, .iconst 0, 1, []), (1, .istore_n 2, 1, []), (2, .iload_n 2, 1, []), (3, .aload_n 0, 1, []), (4, .getfield 23, 3, [5, 2, 0, 154]), (7, .invokevirtual 36, 3, [181, 0, 484]), (10, .if_icmp .ge 59, 3, [69]), (13, .aload_n 1, 1, []), (14, .getfield 87, 3, [0, 4, 1, 204]), (17, .aload_n 0, 1, []), (18, .getfield 23, 3, [5, 2, 0, 154]), (21, .iload_n 2, 1, []), (22, .iconst 1, 1, []), (23, .invokevirtual 32, 3, [184, 2, 485]), (26, .aload_n 0, 1, []), (27, .getfield 23, 3, [5, 2, 0, 154]), (30, .iload_n 2, 1, []), (31, .iconst 2, 1, []), (32, .invokevirtual 32, 3, [184, 2, 485]), (35, .invokestatic 90, 3, [1, 54, 3, 704]), (38, .ifCond .eq 25, 3, [63]), (41, .aload_n 0, 1, []), (42, .aload_n 1, 1, []), (43, .getfield 48, 3, [0, 0, 1, 194]), (46, .aload_n 0, 1, []), (47, .getfield 23, 3, [5, 2, 0, 154]), (50, .iload_n 2, 1, []), (51, .iconst 0, 1, []), (52, .invokevirtual 32, 3, [184, 2, 485]), (55, .invokevirtual 72, 3, [201, 2, 705]), (58, .ifCond .eq 5, 3, [63]), (61, .iconst 1, 1, []), (62, .ireturn, 1, []), (63, .iinc 2 1, 3, []), (66, .goto (-64), 3, [2]), (69, .iconst 0, 1, []), (70, .ireturn, 1, [])]
/-- CustomsDesk$Tariff.preferredRate(LCustomsDesk$Goods;)I -/
def mk_209 : List mg_E := [(0, .sipush 1001, 3, []), (3, .istore_n 2, 1, []), (4, .iconst 0, 1, []), (5, .istore_n 3, 1, []), (6, .iload_n 3, 1, []), (7, .aload_n 0, 1, []), (8, .getfield 20, 3, [5, 1, 0, 152]), (11, .invokevirtual 36, 3, [181, 0, 484]), (14, .if_icmp .ge 68, 3, [82]), (17, .aload_n 0, 1, []), (18, .getfield 20, 3, [5, 1, 0, 152]), (21, .iload_n 3, 1, []), (22, .iconst 1, 1, []), (23, .invokevirtual 32, 3, [184, 2, 485]), (26, .aload_n 1, 1, []), (27, .getfield 69, 3, [0, 1, 1, 197]), (30, .if_icmp .ne 46, 3, [76]), (33, .aload_n 0, 1, []), (34, .aload_n 1, 1, []), (35, .getfield 48, 3, [0, 0, 1, 194]), (38, .aload_n 0, 1, []), (39, .getfield 20, 3, [5, 1, 0, 152]), (42, .iload_n 3, 1, []), (43, .iconst 0, 1, []), (44, .invokevirtual 32, 3, [184, 2, 485]), (47, .invokevirtual 72, 3, [201, 2, 705]), (50, .ifCond .eq 26, 3, [76]), (53, .aload_n 0, 1, []), (54, .iload_n 3, 1, []), (55, .aload_n 1, 1, []), (56, .invokevirtual 76, 3, [210, 2, 714]), (59, .ifCond .eq 17, 3, [76]), (62, .iload_n 2, 1, []), (63, .aload_n 0, 1, []), (64, .getfield 20, 3, [5, 1, 0, 152]), (67, .iload_n 3, 1, []), (68, .iconst 2, 1, []), (69, .invokevirtual 32, 3, [184, 2, 485]), (72, .invokestatic 61, 3, [4, 718]), (75, .istore_n 2, 1, []), (76, .iinc 3 1, 3, []), (79, .goto (-73), 3, [6]), (82, .iload_n 2, 1, []), (83, .ireturn, 1, [])]
/-- CustomsDesk$Tariff.meetsNeed(ILCustomsDesk$Goods;)Z -/
def mk_210 : List mg_E := [(0, .aload_n 0, 1, []), (1, .getfield 20, 3, [5, 1, 0, 152]), (4, .iload_n 1, 1, []), (5, .iconst 3, 1, []), (6, .invokevirtual 32, 3, [184, 2, 485]), (9, .istore_n 3, 1, []), (10, .iload_n 3, 1, []), (11, .ifCond .eq 11, 3, [22]), (14, .aload_n 2, 1, []), (15, .getfield 94, 3, [0, 3, 1, 201]), (18, .iconst 1, 1, []), (19, .if_icmp .ne 5, 3, [24]), (22, .iconst 1, 1, []), (23, .ireturn, 1, []), (24, .iload_n 3, 1, []), (25, .iconst 2, 1, []), (26, .if_icmp .ne 31, 3, [57]), (29, .aload_n 2, 1, []), (30, .getfield 94, 3, [0, 3, 1, 201]), (33, .iconst 2, 1, []), (34, .if_icmp .ne 23, 3, [57]), (37, .aload_n 2, 1, []), (38, .getfield 97, 3, [0, 2, 1, 199]), (41, .aload_n 0, 1, []), (42, .getfield 26, 3, [5, 3, 0, 156]), (45, .iconst 2, 1, []), (46, .iconst 0, 1, []), (47, .invokevirtual 32, 3, [184, 2, 485]), (50, .if_icmp .gt 7, 3, [57]), (53, .iconst 1, 1, []), (54, .goto 4, 3, [58]), (57, .iconst 0, 1, []), (58, .ireturn, 1, [])]
/-- CustomsDesk$Text.<init>()V -/
def mk_211 : List mg_E := [(0, .aload_n 0, 1, []), (1, .invokespecial 3, 3, [2, 255]), (4, .aload_n 0, 1, []), (5, .bipush 60, 2, []), (7, .newarray .char, 2, [1]), (9, .putfield 9, 3, [6, 0, 0, 258]), (12, .aload_n 0, 1, []), (13, .new 15, 3, [0, 4, 256]), (16, .dup, 1, []), (17, .bipush 8, 2, []), (19, .bipush 13, 2, []), (21, .iconst 0, 1, []), (22, .invokespecial 17, 3, [0, 180, 3, 257]), (25, .putfield 20, 3, [6, 1, 0, 259]), (28, .aload_n 0, 1, []), (29, .iconst 0, 1, []), (30, .putfield 24, 3, [6, 2, 0, 261]), (33, .aload_n 0, 1, []), (34, .iconst 0, 1, []), (35, .putfield 28, 3, [6, 3, 0, 263]), (38, .aload_n 0, 1, []), (39, .iconst (-1), 1, []), (40, .putfield 31, 3, [6, 4, 0, 264]), (43, .return_, 1, [])]
/-- CustomsDesk$Text.addCharacter(C)I -/
def mk_212 : List mg_E := [(0, .aload_n 0, 1, []), (1, .getfield 24, 3, [6, 2, 0, 261]), (4, .ifCond .lt 35, 3, [39]), (7, .aload_n 0, 1, []), (8, .getfield 24, 3, [6, 2, 0, 261]), (11, .aload_n 0, 1, []), (12, .getfield 9, 3, [6, 0, 0, 258]), (15, .arraylength, 1, []), (16, .if_icmp .ge 23, 3, [39]), (19, .aload_n 0, 1, []), (20, .getfield 9, 3, [6, 0, 0, 258]), (23, .aload_n 0, 1, []), (24, .getfield 24, 3, [6, 2, 0, 261]), (27, .iload_n 1, 1, []), (28, .castore, 1, []), (29, .aload_n 0, 1, []), (30, .dup, 1, []), (31, .getfield 24, 3, [6, 2, 0, 261]), (34, .iconst 1, 1, []), (35, .iadd, 1, []), (36, .putfield 24, 3, [6, 2, 0, 261]), (39, .aload_n 0, 1, []), (40, .getfield 24, 3, [6, 2, 0, 261]), (43, .ireturn, 1, [])]
/-- CustomsDesk$Text.readAll()Z -/
def mk_213 : List mg_E := [(0, .aload_n 0, 1, []), (1, .iconst 0, 1, []), (2, .putfield 28, 3, [6, 3, 0, 263]), (5, .aload_n 0, 1, []), (6, .getfield 20, 3, [6, 1, 0, 259]), (9, .invokevirtual 34, 3, [189, 0, 1081]), (12, .aload_n 0, 1, []), (13, .invokevirtual 37, 3, [215, 0, 1082]), (16, .istore_n 1, 1, []), (17, .iconst 0, 1, []), (18, .istore_n 2, 1, []), (19, .iload_n 2, 1, []), (20, .bipush 60, 2, []), (22, .if_icmp .ge 46, 3, [68]), (25, .iload_n 1, 1, []), (26, .ifCond .eq 42, 3, [68]), (29, .aload_n 0, 1, []), (30, .getfield 28, 3, [6, 3, 0, 263]), (33, .aload_n 0, 1, []), (34, .getfield 24, 3, [6, 2, 0, 261]), (37, .if_icmp .ge 31, 3, [68]), (40, .aload_n 0, 1, []), (41, .bipush 59, 2, []), (43, .invokevirtual 41, 3, [220, 1, 1100]), (46, .ifCond .eq 14, 3, [60]), (49, .aload_n 0, 1, []), (50, .invokevirtual 37, 3, [215, 0, 1082]), (53, .ifCond .eq 7, 3, [60]), (56, .iconst 1, 1, []), (57, .goto 4, 3, [61]), (60, .iconst 0, 1, []), (61, .istore_n 1, 1, []), (62, .iinc 2 1, 3, []), (65, .goto (-46), 3, [19]), (68, .iload_n 1, 1, []), (69, .ifCond .ne 11, 3, [80]), (72, .aload_n 0, 1, []), (73, .aload_n 0, 1, []), (74, .getfield 28, 3, [6, 3, 0, 263]), (77, .putfield 31, 3, [6, 4, 0, 264]), (80, .aload_n 0, 1, []), (81, .iconst 0, 1, []), (82, .putfield 24, 3, [6, 2, 0, 261]), (85, .iload_n 1, 1, []), (86, .ireturn, 1, [])]
/-- CustomsDesk$Text.partNumber(III)I -/
def mk_214 : List mg_E := [(0, .aload_n 0, 1, []), (1, .getfield 20, 3, [6, 1, 0, 259]), (4, .iload_n 1, 1, []), (5, .iload_n 2, 1, []), (6, .iload_n 3, 1, []), (7, .invokestatic 45, 3, [0, 223, 2, 1108]), (10, .invokevirtual 49, 3, [184, 2, 1141]), (13, .ireturn, 1, [])]
/-- CustomsDesk$Text.readEntry()Z -/
def mk_215 : List mg_E := [(0, .aload_n 0, 1, []), (1, .getfield 20, 3, [6, 1, 0, 259]), (4, .invokevirtual 52, 3, [187, 0, 1086]), (7, .istore_n 1, 1, []), (8, .aload_n 0, 1, []), (9, .getfield 20, 3, [6, 1, 0, 259]), (12, .iload_n 1, 1, []), (13, .iconst 3, 1, []), (14, .iconst (-1), 1, []), (15, .invokevirtual 56, 3, [185, 3, 1087]), (18, .aload_n 0, 1, []), (19, .iload_n 1, 1, []), (20, .iconst 0, 1, []), (21, .iconst 4, 1, []), (22, .iconst 1, 1, []), (23, .invokevirtual 59, 3, [218, 4, 1088]), (26, .ifCond .eq 66, 3, [92]), (29, .aload_n 0, 1, []), (30, .bipush 120, 2, []), (32, .invokevirtual 41, 3, [220, 1, 1100]), (35, .ifCond .eq 57, 3, [92]), (38, .aload_n 0, 1, []), (39, .iload_n 1, 1, []), (40, .iconst 1, 1, []), (41, .iconst 5, 1, []), (42, .iconst 0, 1, []), (43, .invokevirtual 59, 3, [218, 4, 1088]), (46, .ifCond .eq 46, 3, [92]), (49, .aload_n 0, 1, []), (50, .bipush 64, 2, []), (52, .invokevirtual 41, 3, [220, 1, 1100]), (55, .ifCond .eq 37, 3, [92]), (58, .aload_n 0, 1, []), (59, .iload_n 1, 1, []), (60, .invokevirtual 63, 3, [216, 1, 1104]), (63, .ifCond .eq 29, 3, [92]), (66, .aload_n 0, 1, []), (67, .iload_n 1, 1, []), (68, .bipush 33, 2, []), (70, .iconst 2, 1, []), (71, .invokevirtual 67, 3, [217, 3, 1115]), (74, .ifCond .eq 18, 3, [92]), (77, .aload_n 0, 1, []), (78, .iload_n 1, 1, []), (79, .bipush 35, 2, []), (81, .iconst 3, 1, []), (82, .invokevirtual 67, 3, [217, 3, 1115]), (85, .ifCond .eq 7, 3, [92]), (88, .iconst 1, 1, []), (89, .goto 4, 3, [93]), (92, .iconst 0, 1, []), (93, .ireturn, 1, [])]
/-- CustomsDesk$Text.readParts(I)Z -/
def mk_216 : List mg_E := [(0, .iconst 0, 1, []), (1, .istore_n 2, 1, []), (2, .iload_n 2, 1, []), (3, .iconst 4, 1, []), (4, .if_icmp .ge 75, 3, [79]), (7, .iload_n 2, 1, []), (8, .ifCond .le 14, 3, [22]), (11, .aload_n 0, 1, []), (12, .bipush 43, 2, []), (14, .invokevirtual 41, 3, [220, 1, 1100]), (17, .ifCond .ne 5, 3, [22]), (20, .iconst 1, 1, []), (21, .ireturn, 1, []), (22, .aload_n 0, 1, []), (23, .iload_n 1, 1, []), (24, .iload_n 2, 1, []), (25, .iconst 0, 1, []), (26, .invokestatic 45, 3, [0, 223, 2, 1108]), (29, .invokevirtual 71, 3, [219, 2, 1111]), (32, .ifCond .eq 27, 3, [59]), (35, .aload_n 0, 1, []), (36, .bipush 58, 2, []), (38, .invokevirtual 41, 3, [220, 1, 1100]), (41, .ifCond .eq 18, 3, [59]), (44, .aload_n 0, 1, []), (45, .iload_n 1, 1, []), (46, .iload_n 2, 1, []), (47, .iconst 1, 1, []), (48, .invokestatic 45, 3, [0, 223, 2, 1108]), (51, .iconst 5, 1, []), (52, .iconst 0, 1, []), (53, .invokevirtual 59, 3, [218, 4, 1088]), (56, .ifCond .ne 5, 3, [61]), (59, .iconst 0, 1, []), (60, .ireturn, 1, []), (61, .aload_n 0, 1, []), (62, .getfield 20, 3, [6, 1, 0, 259]), (65, .iload_n 1, 1, []), (66, .iconst 4, 1, []), (67, .iload_n 2, 1, []), (68, .iconst 1, 1, []), (69, .iadd, 1, []), (70, .invokevirtual 56, 3, [185, 3, 1087]), (73, .iinc 2 1, 3, []), (76, .goto (-74), 3, [2]), (79, .iconst 1, 1, []), (80, .ireturn, 1, [])]
/-- CustomsDesk$Text.readChoice(ICI)Z -/
def mk_217 : List mg_E := [(0, .aload_n 0, 1, []), (1, .iload_n 2, 1, []), (2, .invokevirtual 41, 3, [220, 1, 1100]), (5, .ifCond .eq 12, 3, [17]), (8, .aload_n 0, 1, []), (9, .iload_n 1, 1, []), (10, .iload_n 3, 1, []), (11, .invokevirtual 71, 3, [219, 2, 1111]), (14, .ifCond .eq 7, 3, [21]), (17, .iconst 1, 1, []), (18, .goto 4, 3, [22]), (21, .iconst 0, 1, []), (22, .ireturn, 1, [])]
/-- CustomsDesk$Text.readNumber(IIII)Z -/
def mk_218 : List mg_E := [(0, .iconst 0, 1, []), (1, .istore 5, 2, []), (3, .iconst 0, 1, []), (4, .istore 6, 2, []), (6, .iload 6, 2, []), (8, .iload_n 3, 1, []), (9, .if_icmp .ge 54, 3, [63]), (12, .aload_n 0, 1, []), (13, .invokevirtual 75, 3, [221, 0, 1092]), (16, .istore 7, 2, []), (18, .iload 7, 2, []), (20, .iload 6, 2, []), (22, .ifCond .ne 7, 3, [29]), (25, .iconst 1, 1, []), (26, .goto 5, 3, [31]), (29, .iload 4, 2, []), (31, .if_icmp .ge 6, 3, [37]), (34, .goto 29, 3, [63]), (37, .iload 5, 2, []), (39, .bipush 10, 2, []), (41, .imul, 1, []), (42, .iload 7, 2, []), (44, .iadd, 1, []), (45, .istore 5, 2, []), (47, .aload_n 0, 1, []), (48, .dup, 1, []), (49, .getfield 28, 3, [6, 3, 0, 263]), (52, .iconst 1, 1, []), (53, .iadd, 1, []), (54, .putfield 28, 3, [6, 3, 0, 263]), (57, .iinc 6 1, 3, []), (60, .goto (-54), 3, [6]), (63, .aload_n 0, 1, []), (64, .getfield 20, 3, [6, 1, 0, 259]), (67, .iload_n 1, 1, []), (68, .iload_n 2, 1, []), (69, .iload 5, 2, []), (71, .invokevirtual 56, 3, [185, 3, 1087]), (74, .iload 5, 2, []), (76, .ifCond .le 7, 3, [83]), (79, .iconst 1, 1, []), (80, .goto 4, 3, [84]), (83, .iconst 0, 1, []), (84, .ireturn, 1, [])]
/-- CustomsDesk$Text.readDigit(II)Z -/
def mk_219 : List mg_E := [(0, .aload_n 0, 1, []), (1, .invokevirtual 75, 3, [221, 0, 1092]), (4, .istore_n 3, 1, []), (5, .iload_n 3, 1, []), (6, .iconst (-1), 1, []), (7, .if_icmp .ne 5, 3, [12]), (10, .iconst 0, 1, []), (11, .ireturn, 1, []), (12, .aload_n 0, 1, []), (13, .getfield 20, 3, [6, 1, 0, 259]), (16, .iload_n 1, 1, []), (17, .iload_n 2, 1, []), (18, .iload_n 3, 1, []), (19, .invokevirtual 56, 3, [185, 3, 1087]), (22, .aload_n 0, 1, []), (23, .dup, 1, []), (24, .getfield 28, 3, [6, 3, 0, 263]), (27, .iconst 1, 1, []), (28, .iadd, 1, []), (29, .putfield 28, 3, [6, 3, 0, 263]), (32, .iconst 1, 1, []), (33, .ireturn, 1, [])]
/-- CustomsDesk$Text.take(C)Z -/
def mk_220 : List mg_E := [(0, .aload_n 0, 1, []), (1, .invokevirtual 78, 3, [222, 0, 1096]), (4, .ifCond .eq 16, 3, [20]), (7, .aload_n 0, 1, []), (8, .getfield 9, 3, [6, 0, 0, 258]), (11, .aload_n 0, 1, []), (12, .getfield 28, 3, [6, 3, 0, 263]), (15, .caload, 1, []), (16, .iload_n 1, 1, []), (17, .if_icmp .eq 5, 3, [22]), (20, .iconst 0, 1, []), (21, .ireturn, 1, []), (22, .aload_n 0, 1, []), (23, .dup, 1, []), (24, .getfield 28, 3, [6, 3, 0, 263]), (27, .iconst 1, 1, []), (28, .iadd, 1, []), (29, .putfield 28, 3, [6, 3, 0, 263]), (32, .iconst 1, 1, []), (33, .ireturn, 1, [])]
/-- CustomsDesk$Text.digitHere()I -/
def mk_221 : List mg_E := [(0, .aload_n 0, 1, []), (1, .invokevirtual 78, 3, [222, 0, 1096]), (4, .ifCond .eq 31, 3, [35]), (7, .aload_n 0, 1, []), (8, .getfield 9, 3, [6, 0, 0, 258]), (11, .aload_n 0, 1, []), (12, .getfield 28, 3, [6, 3, 0, 263]), (15, .caload, 1, []), (16, .bipush 48, 2, []), (18, .if_icmp .lt 17, 3, [35]), (21, .aload_n 0, 1, []), (22, .getfield 9, 3, [6, 0, 0, 258]), (25, .aload_n 0, 1, []), (26, .getfield 28, 3, [6, 3, 0, 263]), (29, .caload, 1, []), (30, .bipush 57, 2, []), (32, .if_icmp .le 5, 3, [37]), (35, .iconst (-1), 1, []), (36, .ireturn, 1, []), (37, .aload_n 0, 1, []), (38, .getfield 9, 3, [6, 0, 0, 258]), (41, .aload_n 0, 1, []), (42, .getfield 28, 3, [6, 3, 0, 263]), (45, .caload, 1, []), (46, .bipush 48, 2, []), (48, .isub, 1, []), (49, .ireturn, 1, [])]
/-- CustomsDesk$Text.isInText()Z -/
def mk_222 : List mg_E := [(0, .aload_n 0, 1, []), (1, .getfield 28, 3, [6, 3, 0, 263]), (4, .ifCond .lt 30, 3, [34]), (7, .aload_n 0, 1, []), (8, .getfield 28, 3, [6, 3, 0, 263]), (11, .aload_n 0, 1, []), (12, .getfield 24, 3, [6, 2, 0, 261]), (15, .if_icmp .ge 19, 3, [34]), (18, .aload_n 0, 1, []), (19, .getfield 28, 3, [6, 3, 0, 263]), (22, .aload_n 0, 1, []), (23, .getfield 9, 3, [6, 0, 0, 258]), (26, .arraylength, 1, []), (27, .if_icmp .ge 7, 3, [34]), (30, .iconst 1, 1, []), (31, .goto 4, 3, [35]), (34, .iconst 0, 1, []), (35, .ireturn, 1, [])]
/-- CustomsDesk$Text.partColumn(II)I -/
def mk_223 : List mg_E := [(0, .iconst 5, 1, []), (1, .iload_n 0, 1, []), (2, .iconst 2, 1, []), (3, .imul, 1, []), (4, .iadd, 1, []), (5, .iload_n 1, 1, []), (6, .iadd, 1, []), (7, .ireturn, 1, [])]
/-- CustomsDeskLaw.heading(LCustomsDesk;II[J)I -/
def mk_224 : List mg_E := [(0, .aload_n 3, 1, []), (1, .iconst 0, 1, []), (2, .aload_n 0, 1, []), (3, .iload_n 1, 1, []), (4, .iload_n 2, 1, []), (5, .invokevirtual 7, 3, [1, 2, 455]), (8, .i2l, 1, []), (9, .lastore, 1, []), (10, .goto 15, 3, [25]), (13, .astore 4, 2, []), (15, .iconst 1, 1, []), (16, .ireturn, 1, []), (17, .astore 4, 2, []), (19, .iconst 2, 1, []), (20, .ireturn, 1, []), (21, .astore 4, 2, []), (23, .iconst 3, 1, []), (24, .ireturn, 1, []), (25, .iconst 0, 1, []), (26, .ireturn, 1, [])]
/-- CustomsDeskLaw.rate(LCustomsDesk;II[J)I -/
def mk_225 : List mg_E := [(0, .aload_n 3, 1, []), (1, .iconst 0, 1, []), (2, .aload_n 0, 1, []), (3, .iload_n 1, 1, []), (4, .iload_n 2, 1, []), (5, .invokevirtual 19, 3, [2, 2, 538]), (8, .i2l, 1, []), (9, .lastore, 1, []), (10, .goto 11, 3, [21]), (13, .astore 4, 2, []), (15, .iconst 1, 1, []), (16, .ireturn, 1, []), (17, .astore 4, 2, []), (19, .iconst 2, 1, []), (20, .ireturn, 1, []), (21, .iconst 0, 1, []), (22, .ireturn, 1, [])]
/-- CustomsDeskLaw.told(LCustomsDesk;II[J)I -/
def mk_226 : List mg_E := [(0, .aload_n 3, 1, []), (1, .iconst 0, 1, []), (2, .aload_n 0, 1, []), (3, .iload_n 1, 1, []), (4, .iload_n 2, 1, []), (5, .invokevirtual 22, 3, [3, 2, 552]), (8, .i2l, 1, []), (9, .lastore, 1, []), (10, .goto 11, 3, [21]), (13, .astore 4, 2, []), (15, .iconst 1, 1, []), (16, .ireturn, 1, []), (17, .astore 4, 2, []), (19, .iconst 2, 1, []), (20, .ireturn, 1, []), (21, .iconst 0, 1, []), (22, .ireturn, 1, [])]
/-- CustomsDeskLaw.find(LCustomsDesk;I[J)I -/
def mk_227 : List mg_E := [(0, .aload_n 2, 1, []), (1, .iconst 0, 1, []), (2, .aload_n 0, 1, []), (3, .iload_n 1, 1, []), (4, .invokevirtual 25, 3, [4, 1, 573]), (7, .i2l, 1, []), (8, .lastore, 1, []), (9, .goto 6, 3, [15]), (12, .astore_n 3, 1, []), (13, .iconst 1, 1, []), (14, .ireturn, 1, []), (15, .iconst 0, 1, []), (16, .ireturn, 1, [])]
/-- CustomsDeskLaw.prefer(LCustomsDesk;IIII[J)I -/
def mk_228 : List mg_E := [(0, .aload 5, 2, []), (2, .iconst 0, 1, []), (3, .aload_n 0, 1, []), (4, .iload_n 1, 1, []), (5, .iload_n 2, 1, []), (6, .iload_n 3, 1, []), (7, .iload 4, 2, []), (9, .invokevirtual 31, 3, [5, 4, 601]), (12, .i2l, 1, []), (13, .lastore, 1, []), (14, .goto 15, 3, [29]), (17, .astore 6, 2, []), (19, .iconst 1, 1, []), (20, .ireturn, 1, []), (21, .astore 6, 2, []), (23, .iconst 2, 1, []), (24, .ireturn, 1, []), (25, .astore 6, 2, []), (27, .iconst 3, 1, []), (28, .ireturn, 1, []), (29, .iconst 0, 1, []), (30, .ireturn, 1, [])]
/-- CustomsDeskLaw.drop(LCustomsDesk;I[J)I -/
def mk_229 : List mg_E := [(0, .aload_n 2, 1, []), (1, .iconst 0, 1, []), (2, .aload_n 0, 1, []), (3, .iload_n 1, 1, []), (4, .invokevirtual 35, 3, [6, 1, 618]), (7, .i2l, 1, []), (8, .lastore, 1, []), (9, .goto 6, 3, [15]), (12, .astore_n 3, 1, []), (13, .iconst 1, 1, []), (14, .ireturn, 1, []), (15, .iconst 0, 1, []), (16, .ireturn, 1, [])]
/-- CustomsDeskLaw.suspend(LCustomsDesk;III[J)I -/
def mk_230 : List mg_E := [(0, .aload 4, 2, []), (2, .iconst 0, 1, []), (3, .aload_n 0, 1, []), (4, .iload_n 1, 1, []), (5, .iload_n 2, 1, []), (6, .iload_n 3, 1, []), (7, .invokevirtual 38, 3, [7, 3, 631]), (10, .i2l, 1, []), (11, .lastore, 1, []), (12, .goto 15, 3, [27]), (15, .astore 5, 2, []), (17, .iconst 1, 1, []), (18, .ireturn, 1, []), (19, .astore 5, 2, []), (21, .iconst 2, 1, []), (22, .ireturn, 1, []), (23, .astore 5, 2, []), (25, .iconst 3, 1, []), (26, .ireturn, 1, []), (27, .iconst 0, 1, []), (28, .ireturn, 1, [])]
/-- CustomsDeskLaw.quota(LCustomsDesk;IIIII[J)I -/
def mk_231 : List mg_E := [(0, .aload 6, 2, []), (2, .iconst 0, 1, []), (3, .aload_n 0, 1, []), (4, .iload_n 1, 1, []), (5, .iload_n 2, 1, []), (6, .iload_n 3, 1, []), (7, .iload 4, 2, []), (9, .iload 5, 2, []), (11, .invokevirtual 42, 3, [8, 5, 640]), (14, .i2l, 1, []), (15, .lastore, 1, []), (16, .goto 15, 3, [31]), (19, .astore 7, 2, []), (21, .iconst 1, 1, []), (22, .ireturn, 1, []), (23, .astore 7, 2, []), (25, .iconst 2, 1, []), (26, .ireturn, 1, []), (27, .astore 7, 2, []), (29, .iconst 3, 1, []), (30, .ireturn, 1, []), (31, .iconst 0, 1, []), (32, .ireturn, 1, [])]
/-- CustomsDeskLaw.quotaTold(LCustomsDesk;II[J)I -/
def mk_232 : List mg_E := [(0, .aload_n 3, 1, []), (1, .iconst 0, 1, []), (2, .aload_n 0, 1, []), (3, .iload_n 1, 1, []), (4, .iload_n 2, 1, []), (5, .invokevirtual 46, 3, [9, 2, 654]), (8, .i2l, 1, []), (9, .lastore, 1, []), (10, .goto 11, 3, [21]), (13, .astore 4, 2, []), (15, .iconst 1, 1, []), (16, .ireturn, 1, []), (17, .astore 4, 2, []), (19, .iconst 2, 1, []), (20, .ireturn, 1, []), (21, .iconst 0, 1, []), (22, .ireturn, 1, [])]
/-- CustomsDeskLaw.set(LCustomsDesk;II[J)I -/
def mk_233 : List mg_E := [(0, .aload_n 3, 1, []), (1, .iconst 0, 1, []), (2, .aload_n 0, 1, []), (3, .iload_n 1, 1, []), (4, .iload_n 2, 1, []), (5, .invokevirtual 49, 3, [10, 2, 667]), (8, .i2l, 1, []), (9, .lastore, 1, []), (10, .goto 7, 3, [17]), (13, .astore 4, 2, []), (15, .iconst 1, 1, []), (16, .ireturn, 1, []), (17, .iconst 0, 1, []), (18, .ireturn, 1, [])]
/-- CustomsDeskLaw.rateOf(LCustomsDesk;IIII[J)I -/
def mk_234 : List mg_E := [(0, .aload 5, 2, []), (2, .iconst 0, 1, []), (3, .aload_n 0, 1, []), (4, .iload_n 1, 1, []), (5, .iload_n 2, 1, []), (6, .iload_n 3, 1, []), (7, .iload 4, 2, []), (9, .invokevirtual 52, 3, [11, 4, 683]), (12, .i2l, 1, []), (13, .lastore, 1, []), (14, .goto 11, 3, [25]), (17, .astore 6, 2, []), (19, .iconst 1, 1, []), (20, .ireturn, 1, []), (21, .astore 6, 2, []), (23, .iconst 2, 1, []), (24, .ireturn, 1, []), (25, .iconst 0, 1, []), (26, .ireturn, 1, [])]
/-- CustomsDeskLaw.comesFrom(LCustomsDesk;IIII[J)I -/
def mk_235 : List mg_E := [(0, .aload 5, 2, []), (2, .iconst 0, 1, []), (3, .aload_n 0, 1, []), (4, .iload_n 1, 1, []), (5, .iload_n 2, 1, []), (6, .iload_n 3, 1, []), (7, .iload 4, 2, []), (9, .invokevirtual 55, 3, [12, 4, 722]), (12, .i2l, 1, []), (13, .lastore, 1, []), (14, .goto 11, 3, [25]), (17, .astore 6, 2, []), (19, .iconst 1, 1, []), (20, .ireturn, 1, []), (21, .astore 6, 2, []), (23, .iconst 2, 1, []), (24, .ireturn, 1, []), (25, .iconst 0, 1, []), (26, .ireturn, 1, [])]
/-- CustomsDeskLaw.missed(LCustomsDesk;IIII[J)I -/
def mk_236 : List mg_E := [(0, .aload 5, 2, []), (2, .iconst 0, 1, []), (3, .aload_n 0, 1, []), (4, .iload_n 1, 1, []), (5, .iload_n 2, 1, []), (6, .iload_n 3, 1, []), (7, .iload 4, 2, []), (9, .invokevirtual 58, 3, [13, 4, 733]), (12, .i2l, 1, []), (13, .lastore, 1, []), (14, .goto 15, 3, [29]), (17, .astore 6, 2, []), (19, .iconst 1, 1, []), (20, .ireturn, 1, []), (21, .astore 6, 2, []), (23, .iconst 2, 1, []), (24, .ireturn, 1, []), (25, .astore 6, 2, []), (27, .iconst 3, 1, []), (28, .ireturn, 1, []), (29, .iconst 0, 1, []), (30, .ireturn, 1, [])]
/-- CustomsDeskLaw.part(LCustomsDesk;II[J)I -/
def mk_237 : List mg_E := [(0, .aload_n 3, 1, []), (1, .iconst 0, 1, []), (2, .aload_n 0, 1, []), (3, .iload_n 1, 1, []), (4, .iload_n 2, 1, []), (5, .invokevirtual 61, 3, [14, 2, 746]), (8, .i2l, 1, []), (9, .lastore, 1, []), (10, .goto 15, 3, [25]), (13, .astore 4, 2, []), (15, .iconst 1, 1, []), (16, .ireturn, 1, []), (17, .astore 4, 2, []), (19, .iconst 2, 1, []), (20, .ireturn, 1, []), (21, .astore 4, 2, []), (23, .iconst 3, 1, []), (24, .ireturn, 1, []), (25, .iconst 0, 1, []), (26, .ireturn, 1, [])]
/-- CustomsDeskLaw.origin(LCustomsDesk;[J)I -/
def mk_238 : List mg_E := [(0, .aload_n 1, 1, []), (1, .iconst 0, 1, []), (2, .aload_n 0, 1, []), (3, .invokevirtual 64, 3, [16, 0, 761]), (6, .i2l, 1, []), (7, .lastore, 1, []), (8, .goto 6, 3, [14]), (11, .astore_n 2, 1, []), (12, .iconst 1, 1, []), (13, .ireturn, 1, []), (14, .iconst 0, 1, []), (15, .ireturn, 1, [])]
/-- CustomsDeskLaw.declare(LCustomsDesk;IIII[J)I -/
def mk_239 : List mg_E := [(0, .aload 5, 2, []), (2, .iconst 0, 1, []), (3, .aload_n 0, 1, []), (4, .iload_n 1, 1, []), (5, .iload_n 2, 1, []), (6, .iload_n 3, 1, []), (7, .iload 4, 2, []), (9, .invokevirtual 68, 3, [17, 4, 783]), (12, .i2l, 1, []), (13, .lastore, 1, []), (14, .goto 15, 3, [29]), (17, .astore 6, 2, []), (19, .iconst 1, 1, []), (20, .ireturn, 1, []), (21, .astore 6, 2, []), (23, .iconst 2, 1, []), (24, .ireturn, 1, []), (25, .astore 6, 2, []), (27, .iconst 3, 1, []), (28, .ireturn, 1, []), (29, .iconst 0, 1, []), (30, .ireturn, 1, [])]
/-- CustomsDeskLaw.declaration(LCustomsDesk;II[J)I -/
def mk_240 : List mg_E := [(0, .aload_n 3, 1, []), (1, .iconst 0, 1, []), (2, .aload_n 0, 1, []), (3, .iload_n 1, 1, []), (4, .iload_n 2, 1, []), (5, .invokevirtual 71, 3, [18, 2, 802]), (8, .i2l, 1, []), (9, .lastore, 1, []), (10, .goto 11, 3, [21]), (13, .astore 4, 2, []), (15, .iconst 1, 1, []), (16, .ireturn, 1, []), (17, .astore 4, 2, []), (19, .iconst 2, 1, []), (20, .ireturn, 1, []), (21, .iconst 0, 1, []), (22, .ireturn, 1, [])]
/-- CustomsDeskLaw.claim(LCustomsDesk;I[J)I -/
def mk_241 : List mg_E := [(0, .aload_n 2, 1, []), (1, .iconst 0, 1, []), (2, .aload_n 0, 1, []), (3, .iload_n 1, 1, []), (4, .invokevirtual 74, 3, [19, 1, 815]), (7, .i2l, 1, []), (8, .lastore, 1, []), (9, .goto 9, 3, [18]), (12, .astore_n 3, 1, []), (13, .iconst 1, 1, []), (14, .ireturn, 1, []), (15, .astore_n 3, 1, []), (16, .iconst 2, 1, []), (17, .ireturn, 1, []), (18, .iconst 0, 1, []), (19, .ireturn, 1, [])]
/-- CustomsDeskLaw.leftThen(LCustomsDesk;I[J)I -/
def mk_242 : List mg_E := [(0, .aload_n 2, 1, []), (1, .iconst 0, 1, []), (2, .aload_n 0, 1, []), (3, .iload_n 1, 1, []), (4, .invokevirtual 77, 3, [20, 1, 840]), (7, .i2l, 1, []), (8, .lastore, 1, []), (9, .goto 6, 3, [15]), (12, .astore_n 3, 1, []), (13, .iconst 1, 1, []), (14, .ireturn, 1, []), (15, .iconst 0, 1, []), (16, .ireturn, 1, [])]
/-- CustomsDeskLaw.pass(LCustomsDesk;I[J)I -/
def mk_243 : List mg_E := [(0, .aload_n 2, 1, []), (1, .iconst 0, 1, []), (2, .aload_n 0, 1, []), (3, .iload_n 1, 1, []), (4, .invokevirtual 80, 3, [21, 1, 858]), (7, .i2l, 1, []), (8, .lastore, 1, []), (9, .goto 9, 3, [18]), (12, .astore_n 3, 1, []), (13, .iconst 1, 1, []), (14, .ireturn, 1, []), (15, .astore_n 3, 1, []), (16, .iconst 2, 1, []), (17, .ireturn, 1, []), (18, .iconst 0, 1, []), (19, .ireturn, 1, [])]
/-- CustomsDeskLaw.refund(LCustomsDesk;I[J)I -/
def mk_244 : List mg_E := [(0, .aload_n 2, 1, []), (1, .iconst 0, 1, []), (2, .aload_n 0, 1, []), (3, .iload_n 1, 1, []), (4, .invokevirtual 83, 3, [22, 1, 910]), (7, .i2l, 1, []), (8, .lastore, 1, []), (9, .goto 9, 3, [18]), (12, .astore_n 3, 1, []), (13, .iconst 1, 1, []), (14, .ireturn, 1, []), (15, .astore_n 3, 1, []), (16, .iconst 2, 1, []), (17, .ireturn, 1, []), (18, .iconst 0, 1, []), (19, .ireturn, 1, [])]
/-- CustomsDeskLaw.prove(LCustomsDesk;II[J)I -/
def mk_245 : List mg_E := [(0, .aload_n 3, 1, []), (1, .iconst 0, 1, []), (2, .aload_n 0, 1, []), (3, .iload_n 1, 1, []), (4, .iload_n 2, 1, []), (5, .invokevirtual 88, 3, [23, 2, 961]), (8, .i2l, 1, []), (9, .lastore, 1, []), (10, .goto 15, 3, [25]), (13, .astore 4, 2, []), (15, .iconst 1, 1, []), (16, .ireturn, 1, []), (17, .astore 4, 2, []), (19, .iconst 2, 1, []), (20, .ireturn, 1, []), (21, .astore 4, 2, []), (23, .iconst 3, 1, []), (24, .ireturn, 1, []), (25, .iconst 0, 1, []), (26, .ireturn, 1, [])]
/-- CustomsDeskLaw.refusal(LCustomsDesk;[J)I -/
def mk_246 : List mg_E := [(0, .aload_n 1, 1, []), (1, .iconst 0, 1, []), (2, .aload_n 0, 1, []), (3, .invokevirtual 91, 3, [24, 0, 973]), (6, .i2l, 1, []), (7, .lastore, 1, []), (8, .goto 6, 3, [14]), (11, .astore_n 2, 1, []), (12, .iconst 1, 1, []), (13, .ireturn, 1, []), (14, .iconst 0, 1, []), (15, .ireturn, 1, [])]
/-- CustomsDeskLaw.account(LCustomsDesk;I[J)I -/
def mk_247 : List mg_E := [(0, .aload_n 2, 1, []), (1, .iconst 0, 1, []), (2, .aload_n 0, 1, []), (3, .iload_n 1, 1, []), (4, .invokevirtual 94, 3, [25, 1, 981]), (7, .i2l, 1, []), (8, .lastore, 1, []), (9, .goto 6, 3, [15]), (12, .astore_n 3, 1, []), (13, .iconst 1, 1, []), (14, .ireturn, 1, []), (15, .iconst 0, 1, []), (16, .ireturn, 1, [])]
/-- CustomsDeskLaw.kept(LCustomsDesk;I[J)I -/
def mk_248 : List mg_E := [(0, .aload_n 2, 1, []), (1, .iconst 0, 1, []), (2, .aload_n 0, 1, []), (3, .iload_n 1, 1, []), (4, .invokevirtual 97, 3, [26, 1, 1001]), (7, .i2l, 1, []), (8, .lastore, 1, []), (9, .goto 6, 3, [15]), (12, .astore_n 3, 1, []), (13, .iconst 1, 1, []), (14, .ireturn, 1, []), (15, .iconst 0, 1, []), (16, .ireturn, 1, [])]
/-- CustomsDeskLaw.keptAgain(LCustomsDesk;I[J)I -/
def mk_249 : List mg_E := [(0, .aload_n 2, 1, []), (1, .iconst 0, 1, []), (2, .aload_n 0, 1, []), (3, .iload_n 1, 1, []), (4, .invokevirtual 100, 3, [27, 1, 1008]), (7, .i2l, 1, []), (8, .lastore, 1, []), (9, .goto 6, 3, [15]), (12, .astore_n 3, 1, []), (13, .iconst 1, 1, []), (14, .ireturn, 1, []), (15, .iconst 0, 1, []), (16, .ireturn, 1, [])]
/-- CustomsDeskLaw.keptUnder(LCustomsDesk;I[J)I -/
def mk_250 : List mg_E := [(0, .aload_n 2, 1, []), (1, .iconst 0, 1, []), (2, .aload_n 0, 1, []), (3, .iload_n 1, 1, []), (4, .invokevirtual 103, 3, [28, 1, 1016]), (7, .i2l, 1, []), (8, .lastore, 1, []), (9, .goto 6, 3, [15]), (12, .astore_n 3, 1, []), (13, .iconst 1, 1, []), (14, .ireturn, 1, []), (15, .iconst 0, 1, []), (16, .ireturn, 1, [])]
/-- CustomsDeskLaw.givenBack(LCustomsDesk;[D)I -/
def mk_251 : List mg_E := [(0, .aload_n 1, 1, []), (1, .iconst 0, 1, []), (2, .aload_n 0, 1, []), (3, .invokevirtual 106, 3, [29, 0, 1038]), (6, .dastore, 1, []), (7, .goto 6, 3, [13]), (10, .astore_n 2, 1, []), (11, .iconst 1, 1, []), (12, .ireturn, 1, []), (13, .iconst 0, 1, []), (14, .ireturn, 1, [])]
/-- CustomsDeskLaw.meanRate(LCustomsDesk;[D)I -/
def mk_252 : List mg_E := [(0, .aload_n 1, 1, []), (1, .iconst 0, 1, []), (2, .aload_n 0, 1, []), (3, .invokevirtual 112, 3, [30, 0, 1048]), (6, .f2d, 1, []), (7, .dastore, 1, []), (8, .goto 6, 3, [14]), (11, .astore_n 2, 1, []), (12, .iconst 1, 1, []), (13, .ireturn, 1, []), (14, .iconst 0, 1, []), (15, .ireturn, 1, [])]
/-- CustomsDeskLaw.append(LCustomsDesk;C[J)I -/
def mk_253 : List mg_E := [(0, .aload_n 2, 1, []), (1, .iconst 0, 1, []), (2, .aload_n 0, 1, []), (3, .iload_n 1, 1, []), (4, .invokevirtual 116, 3, [31, 1, 1060]), (7, .i2l, 1, []), (8, .lastore, 1, []), (9, .goto 9, 3, [18]), (12, .astore_n 3, 1, []), (13, .iconst 1, 1, []), (14, .ireturn, 1, []), (15, .astore_n 3, 1, []), (16, .iconst 2, 1, []), (17, .ireturn, 1, []), (18, .iconst 0, 1, []), (19, .ireturn, 1, [])]
/-- CustomsDeskLaw.lodge(LCustomsDesk;[J)I -/
def mk_254 : List mg_E := [(0, .aload_n 1, 1, []), (1, .iconst 0, 1, []), (2, .aload_n 0, 1, []), (3, .invokevirtual 120, 3, [32, 0, 1073]), (6, .i2l, 1, []), (7, .lastore, 1, []), (8, .goto 12, 3, [20]), (11, .astore_n 2, 1, []), (12, .iconst 1, 1, []), (13, .ireturn, 1, []), (14, .astore_n 2, 1, []), (15, .iconst 2, 1, []), (16, .ireturn, 1, []), (17, .astore_n 2, 1, []), (18, .iconst 3, 1, []), (19, .ireturn, 1, []), (20, .iconst 0, 1, []), (21, .ireturn, 1, [])]
/-- CustomsDeskLaw.errorPosition(LCustomsDesk;[J)I -/
def mk_255 : List mg_E := [(0, .aload_n 1, 1, []), (1, .iconst 0, 1, []), (2, .aload_n 0, 1, []), (3, .invokevirtual 123, 3, [33, 0, 1150]), (6, .i2l, 1, []), (7, .lastore, 1, []), (8, .goto 6, 3, [14]), (11, .astore_n 2, 1, []), (12, .iconst 1, 1, []), (13, .ireturn, 1, []), (14, .iconst 0, 1, []), (15, .ireturn, 1, [])]
/-- CustomsDeskLaw.undo(LCustomsDesk;[J)I -/
def mk_256 : List mg_E := [(0, .aload_n 1, 1, []), (1, .iconst 0, 1, []), (2, .aload_n 0, 1, []), (3, .invokevirtual 126, 3, [35, 0, 1158]), (6, .i2l, 1, []), (7, .lastore, 1, []), (8, .goto 6, 3, [14]), (11, .astore_n 2, 1, []), (12, .iconst 1, 1, []), (13, .ireturn, 1, []), (14, .iconst 0, 1, []), (15, .ireturn, 1, [])]
/-- CustomsDeskLaw.restore(LCustomsDesk;[J)I -/
def mk_257 : List mg_E := [(0, .aload_n 1, 1, []), (1, .iconst 0, 1, []), (2, .aload_n 0, 1, []), (3, .invokevirtual 129, 3, [37, 0, 1189]), (6, .i2l, 1, []), (7, .lastore, 1, []), (8, .goto 6, 3, [14]), (11, .astore_n 2, 1, []), (12, .iconst 1, 1, []), (13, .ireturn, 1, []), (14, .iconst 0, 1, []), (15, .ireturn, 1, [])]
/-- CustomsDeskLaw.law([I)Z -/
def mk_258_0 : List mg_E := [(0, .new 8, 3, [0, 7, 103]), (3, .dup, 1, []), (4, .invokespecial 132, 3, [0, 0, 0, 105]), (7, .astore_n 1, 1, []), (8, .new 133, 3, [0, 8, 1194]), (11, .dup, 1, []), (12, .invokespecial 135, 3, [0, 56, 0, 1196]), (15, .astore_n 2, 1, []), (16, .iconst 1, 1, []), (17, .newarray .long, 2, [2]), (19, .astore_n 3, 1, []), (20, .iconst 1, 1, []), (21, .newarray .double, 2, [3]), (23, .astore 4, 2, []), (25, .iconst 0, 1, []), (26, .istore 5, 2, []), (28, .iload 5, 2, []), (30, .aload_n 0, 1, []), (31, .arraylength, 1, []), (32, .bipush 6, 2, []), (34, .isub, 1, []), (35, .if_icmp .gt 2419, 3, [2454]), (38, .aload_n 0, 1, []), (39, .iload 5, 2, []), (41, .iaload, 1, []), (42, .bipush 63, 2, []), (44, .iand, 1, []), (45, .tableswitch 2403 0 36 #[163, 231, 299, 367, 423, 515, 571, 651, 755, 823, 891, 983, 1075, 1167, 1235, 1248, 1292, 1384, 1452, 1508, 1564, 1620, 1676, 1744, 1788, 1844, 1900, 1956, 2012, 2077, 2143, 2201, 2245, 2289, 2302, 2346, 2359], 163, [2448, 208, 276, 344, 412, 468, 560, 616, 696, 800, 868, 936, 1028, 1120, 1212, 1280, 1293, 1337, 1429, 1497, 1553, 1609, 1665, 1721, 1789, 1833, 1889, 1945, 2001, 2057, 2122, 2188, 2246, 2290, 2334, 2347, 2391, 2404]), (208, .aload_n 1, 1, []), (209, .aload_n 0, 1, []), (210, .iload 5, 2, []), (212, .iconst 1, 1, []), (213, .iadd, 1, []), (214, .iaload, 1, []), (215, .aload_n 0, 1, []), (216, .iload 5, 2, []), (218, .iconst 2, 1, []), (219, .iadd, 1, []), (220, .iaload, 1, []), (221, .aload_n 3, 1, []), (222, .invokestatic 136, 3, [2, 224, 4, 370]), (225, .istore 6, 2, []), (227, .aload_n 2, 1, []), (228, .aload_n 0, 1, []), (229, .iload 5, 2, []), (231, .iconst 1, 1, []), (232, .iadd, 1, []), (233, .iaload, 1, []), (234, .aload_n 0, 1, []), (235, .iload 5, 2, []), (237, .iconst 2, 1, []), (238, .iadd, 1, []), (239, .iaload, 1, []), (240, .invokevirtual 141, 3, [75, 2, 1253]), (243, .istore 7, 2, []), (245, .aload_n 2, 1, []), (246, .invokevirtual 142, 3, [57, 0, 1249]), (249, .iload 6, 2, []), (251, .if_icmp .eq 5, 3, [256]), (254, .iconst 0, 1, []), (255, .ireturn, 1, []), (256, .iload 6, 2, []), (258, .ifCond .ne 15, 3, [273]), (261, .aload_n 3, 1, []), (262, .iconst 0, 1, []), (263, .laload, 1, []), (264, .iload 7, 2, []), (266, .i2l, 1, []), (267, .lcmp, 1, []), (268, .ifCond .eq 5, 3, [273]), (271, .iconst 0, 1, []), (272, .ireturn, 1, []), (273, .goto 2175, 3, [2448]), (276, .aload_n 1, 1, []), (277, .aload_n 0, 1, []), (278, .iload 5, 2, []), (280, .iconst 1, 1, []), (281, .iadd, 1, []), (282, .iaload, 1, []), (283, .aload_n 0, 1, []), (284, .iload 5, 2, []), (286, .iconst 2, 1, []), (287, .iadd, 1, []), (288, .iaload, 1, []), (289, .aload_n 3, 1, []), (290, .invokestatic 145, 3, [2, 225, 4, 535]), (293, .istore 6, 2, []), (295, .aload_n 2, 1, []), (296, .aload_n 0, 1, []), (297, .iload 5, 2, []), (299, .iconst 1, 1, []), (300, .iadd, 1, []), (301, .iaload, 1, []), (302, .aload_n 0, 1, []), (303, .iload 5, 2, []), (305, .iconst 2, 1, []), (306, .iadd, 1, []), (307, .iaload, 1, []), (308, .invokevirtual 147, 3, [76, 2, 1291]), (311, .istore 7, 2, [])]
def mk_258_1 : List mg_E := [(313, .aload_n 2, 1, []), (314, .invokevirtual 142, 3, [57, 0, 1249]), (317, .iload 6, 2, []), (319, .if_icmp .eq 5, 3, [324]), (322, .iconst 0, 1, []), (323, .ireturn, 1, []), (324, .iload 6, 2, []), (326, .ifCond .ne 15, 3, [341]), (329, .aload_n 3, 1, []), (330, .iconst 0, 1, []), (331, .laload, 1, []), (332, .iload 7, 2, []), (334, .i2l, 1, []), (335, .lcmp, 1, []), (336, .ifCond .eq 5, 3, [341]), (339, .iconst 0, 1, []), (340, .ireturn, 1, []), (341, .goto 2107, 3, [2448]), (344, .aload_n 1, 1, []), (345, .aload_n 0, 1, []), (346, .iload 5, 2, []), (348, .iconst 1, 1, []), (349, .iadd, 1, []), (350, .iaload, 1, []), (351, .aload_n 0, 1, []), (352, .iload 5, 2, []), (354, .iconst 2, 1, []), (355, .iadd, 1, []), (356, .iaload, 1, []), (357, .aload_n 3, 1, []), (358, .invokestatic 148, 3, [2, 226, 4, 549]), (361, .istore 6, 2, []), (363, .aload_n 2, 1, []), (364, .aload_n 0, 1, []), (365, .iload 5, 2, []), (367, .iconst 1, 1, []), (368, .iadd, 1, []), (369, .iaload, 1, []), (370, .aload_n 0, 1, []), (371, .iload 5, 2, []), (373, .iconst 2, 1, []), (374, .iadd, 1, []), (375, .iaload, 1, []), (376, .invokevirtual 150, 3, [77, 2, 1295]), (379, .istore 7, 2, []), (381, .aload_n 2, 1, []), (382, .invokevirtual 142, 3, [57, 0, 1249]), (385, .iload 6, 2, []), (387, .if_icmp .eq 5, 3, [392]), (390, .iconst 0, 1, []), (391, .ireturn, 1, []), (392, .iload 6, 2, []), (394, .ifCond .ne 15, 3, [409]), (397, .aload_n 3, 1, []), (398, .iconst 0, 1, []), (399, .laload, 1, []), (400, .iload 7, 2, []), (402, .i2l, 1, []), (403, .lcmp, 1, []), (404, .ifCond .eq 5, 3, [409]), (407, .iconst 0, 1, []), (408, .ireturn, 1, []), (409, .goto 2039, 3, [2448]), (412, .aload_n 1, 1, []), (413, .aload_n 0, 1, []), (414, .iload 5, 2, []), (416, .iconst 1, 1, []), (417, .iadd, 1, []), (418, .iaload, 1, []), (419, .aload_n 3, 1, []), (420, .invokestatic 151, 3, [2, 227, 3, 569]), (423, .istore 6, 2, []), (425, .aload_n 2, 1, []), (426, .aload_n 0, 1, []), (427, .iload 5, 2, []), (429, .iconst 1, 1, []), (430, .iadd, 1, []), (431, .iaload, 1, []), (432, .invokevirtual 154, 3, [78, 1, 1311]), (435, .istore 7, 2, []), (437, .aload_n 2, 1, []), (438, .invokevirtual 142, 3, [57, 0, 1249]), (441, .iload 6, 2, []), (443, .if_icmp .eq 5, 3, [448]), (446, .iconst 0, 1, []), (447, .ireturn, 1, []), (448, .iload 6, 2, []), (450, .ifCond .ne 15, 3, [465]), (453, .aload_n 3, 1, []), (454, .iconst 0, 1, []), (455, .laload, 1, []), (456, .iload 7, 2, []), (458, .i2l, 1, []), (459, .lcmp, 1, []), (460, .ifCond .eq 5, 3, [465]), (463, .iconst 0, 1, []), (464, .ireturn, 1, []), (465, .goto 1983, 3, [2448]), (468, .aload_n 1, 1, []), (469, .aload_n 0, 1, [])]
def mk_258_2 : List mg_E := [(470, .iload 5, 2, []), (472, .iconst 1, 1, []), (473, .iadd, 1, []), (474, .iaload, 1, []), (475, .aload_n 0, 1, []), (476, .iload 5, 2, []), (478, .iconst 2, 1, []), (479, .iadd, 1, []), (480, .iaload, 1, []), (481, .aload_n 0, 1, []), (482, .iload 5, 2, []), (484, .iconst 3, 1, []), (485, .iadd, 1, []), (486, .iaload, 1, []), (487, .aload_n 0, 1, []), (488, .iload 5, 2, []), (490, .iconst 4, 1, []), (491, .iadd, 1, []), (492, .iaload, 1, []), (493, .aload_n 3, 1, []), (494, .invokestatic 155, 3, [2, 228, 6, 598]), (497, .istore 6, 2, []), (499, .aload_n 2, 1, []), (500, .aload_n 0, 1, []), (501, .iload 5, 2, []), (503, .iconst 1, 1, []), (504, .iadd, 1, []), (505, .iaload, 1, []), (506, .aload_n 0, 1, []), (507, .iload 5, 2, []), (509, .iconst 2, 1, []), (510, .iadd, 1, []), (511, .iaload, 1, []), (512, .aload_n 0, 1, []), (513, .iload 5, 2, []), (515, .iconst 3, 1, []), (516, .iadd, 1, []), (517, .iaload, 1, []), (518, .aload_n 0, 1, []), (519, .iload 5, 2, []), (521, .iconst 4, 1, []), (522, .iadd, 1, []), (523, .iaload, 1, []), (524, .invokevirtual 158, 3, [79, 4, 1319]), (527, .istore 7, 2, []), (529, .aload_n 2, 1, []), (530, .invokevirtual 142, 3, [57, 0, 1249]), (533, .iload 6, 2, []), (535, .if_icmp .eq 5, 3, [540]), (538, .iconst 0, 1, []), (539, .ireturn, 1, []), (540, .iload 6, 2, []), (542, .ifCond .ne 15, 3, [557]), (545, .aload_n 3, 1, []), (546, .iconst 0, 1, []), (547, .laload, 1, []), (548, .iload 7, 2, []), (550, .i2l, 1, []), (551, .lcmp, 1, []), (552, .ifCond .eq 5, 3, [557]), (555, .iconst 0, 1, []), (556, .ireturn, 1, []), (557, .goto 1891, 3, [2448]), (560, .aload_n 1, 1, []), (561, .aload_n 0, 1, []), (562, .iload 5, 2, []), (564, .iconst 1, 1, []), (565, .iadd, 1, []), (566, .iaload, 1, []), (567, .aload_n 3, 1, []), (568, .invokestatic 159, 3, [2, 229, 3, 615]), (571, .istore 6, 2, []), (573, .aload_n 2, 1, []), (574, .aload_n 0, 1, []), (575, .iload 5, 2, []), (577, .iconst 1, 1, []), (578, .iadd, 1, []), (579, .iaload, 1, []), (580, .invokevirtual 161, 3, [80, 1, 1326]), (583, .istore 7, 2, []), (585, .aload_n 2, 1, []), (586, .invokevirtual 142, 3, [57, 0, 1249]), (589, .iload 6, 2, []), (591, .if_icmp .eq 5, 3, [596]), (594, .iconst 0, 1, []), (595, .ireturn, 1, []), (596, .iload 6, 2, []), (598, .ifCond .ne 15, 3, [613]), (601, .aload_n 3, 1, []), (602, .iconst 0, 1, []), (603, .laload, 1, []), (604, .iload 7, 2, []), (606, .i2l, 1, []), (607, .lcmp, 1, []), (608, .ifCond .eq 5, 3, [613]), (611, .iconst 0, 1, []), (612, .ireturn, 1, []), (613, .goto 1835, 3, [2448]), (616, .aload_n 1, 1, []), (617, .aload_n 0, 1, [])]
def mk_258_3 : List mg_E := [(618, .iload 5, 2, []), (620, .iconst 1, 1, []), (621, .iadd, 1, []), (622, .iaload, 1, []), (623, .aload_n 0, 1, []), (624, .iload 5, 2, []), (626, .iconst 2, 1, []), (627, .iadd, 1, []), (628, .iaload, 1, []), (629, .aload_n 0, 1, []), (630, .iload 5, 2, []), (632, .iconst 3, 1, []), (633, .iadd, 1, []), (634, .iaload, 1, []), (635, .aload_n 3, 1, []), (636, .invokestatic 162, 3, [2, 230, 5, 628]), (639, .istore 6, 2, []), (641, .aload_n 2, 1, []), (642, .aload_n 0, 1, []), (643, .iload 5, 2, []), (645, .iconst 1, 1, []), (646, .iadd, 1, []), (647, .iaload, 1, []), (648, .aload_n 0, 1, []), (649, .iload 5, 2, []), (651, .iconst 2, 1, []), (652, .iadd, 1, []), (653, .iaload, 1, []), (654, .aload_n 0, 1, []), (655, .iload 5, 2, []), (657, .iconst 3, 1, []), (658, .iadd, 1, []), (659, .iaload, 1, []), (660, .invokevirtual 165, 3, [81, 3, 1330]), (663, .istore 7, 2, []), (665, .aload_n 2, 1, []), (666, .invokevirtual 142, 3, [57, 0, 1249]), (669, .iload 6, 2, []), (671, .if_icmp .eq 5, 3, [676]), (674, .iconst 0, 1, []), (675, .ireturn, 1, []), (676, .iload 6, 2, []), (678, .ifCond .ne 15, 3, [693]), (681, .aload_n 3, 1, []), (682, .iconst 0, 1, []), (683, .laload, 1, []), (684, .iload 7, 2, []), (686, .i2l, 1, []), (687, .lcmp, 1, []), (688, .ifCond .eq 5, 3, [693]), (691, .iconst 0, 1, []), (692, .ireturn, 1, []), (693, .goto 1755, 3, [2448]), (696, .aload_n 1, 1, []), (697, .aload_n 0, 1, []), (698, .iload 5, 2, []), (700, .iconst 1, 1, []), (701, .iadd, 1, []), (702, .iaload, 1, []), (703, .aload_n 0, 1, []), (704, .iload 5, 2, []), (706, .iconst 2, 1, []), (707, .iadd, 1, []), (708, .iaload, 1, []), (709, .aload_n 0, 1, []), (710, .iload 5, 2, []), (712, .iconst 3, 1, []), (713, .iadd, 1, []), (714, .iaload, 1, []), (715, .aload_n 0, 1, []), (716, .iload 5, 2, []), (718, .iconst 4, 1, []), (719, .iadd, 1, []), (720, .iaload, 1, []), (721, .aload_n 0, 1, []), (722, .iload 5, 2, []), (724, .iconst 5, 1, []), (725, .iadd, 1, []), (726, .iaload, 1, []), (727, .aload_n 3, 1, []), (728, .invokestatic 166, 3, [2, 231, 7, 637]), (731, .istore 6, 2, []), (733, .aload_n 2, 1, []), (734, .aload_n 0, 1, []), (735, .iload 5, 2, []), (737, .iconst 1, 1, []), (738, .iadd, 1, []), (739, .iaload, 1, []), (740, .aload_n 0, 1, []), (741, .iload 5, 2, []), (743, .iconst 2, 1, []), (744, .iadd, 1, []), (745, .iaload, 1, []), (746, .aload_n 0, 1, []), (747, .iload 5, 2, []), (749, .iconst 3, 1, []), (750, .iadd, 1, []), (751, .iaload, 1, []), (752, .aload_n 0, 1, []), (753, .iload 5, 2, [])]
def mk_258_4 : List mg_E := [(755, .iconst 4, 1, []), (756, .iadd, 1, []), (757, .iaload, 1, []), (758, .aload_n 0, 1, []), (759, .iload 5, 2, []), (761, .iconst 5, 1, []), (762, .iadd, 1, []), (763, .iaload, 1, []), (764, .invokevirtual 169, 3, [82, 5, 1334]), (767, .istore 7, 2, []), (769, .aload_n 2, 1, []), (770, .invokevirtual 142, 3, [57, 0, 1249]), (773, .iload 6, 2, []), (775, .if_icmp .eq 5, 3, [780]), (778, .iconst 0, 1, []), (779, .ireturn, 1, []), (780, .iload 6, 2, []), (782, .ifCond .ne 15, 3, [797]), (785, .aload_n 3, 1, []), (786, .iconst 0, 1, []), (787, .laload, 1, []), (788, .iload 7, 2, []), (790, .i2l, 1, []), (791, .lcmp, 1, []), (792, .ifCond .eq 5, 3, [797]), (795, .iconst 0, 1, []), (796, .ireturn, 1, []), (797, .goto 1651, 3, [2448]), (800, .aload_n 1, 1, []), (801, .aload_n 0, 1, []), (802, .iload 5, 2, []), (804, .iconst 1, 1, []), (805, .iadd, 1, []), (806, .iaload, 1, []), (807, .aload_n 0, 1, []), (808, .iload 5, 2, []), (810, .iconst 2, 1, []), (811, .iadd, 1, []), (812, .iaload, 1, []), (813, .aload_n 3, 1, []), (814, .invokestatic 170, 3, [2, 232, 4, 651]), (817, .istore 6, 2, []), (819, .aload_n 2, 1, []), (820, .aload_n 0, 1, []), (821, .iload 5, 2, []), (823, .iconst 1, 1, []), (824, .iadd, 1, []), (825, .iaload, 1, []), (826, .aload_n 0, 1, []), (827, .iload 5, 2, []), (829, .iconst 2, 1, []), (830, .iadd, 1, []), (831, .iaload, 1, []), (832, .invokevirtual 172, 3, [83, 2, 1338]), (835, .istore 7, 2, []), (837, .aload_n 2, 1, []), (838, .invokevirtual 142, 3, [57, 0, 1249]), (841, .iload 6, 2, []), (843, .if_icmp .eq 5, 3, [848]), (846, .iconst 0, 1, []), (847, .ireturn, 1, []), (848, .iload 6, 2, []), (850, .ifCond .ne 15, 3, [865]), (853, .aload_n 3, 1, []), (854, .iconst 0, 1, []), (855, .laload, 1, []), (856, .iload 7, 2, []), (858, .i2l, 1, []), (859, .lcmp, 1, []), (860, .ifCond .eq 5, 3, [865]), (863, .iconst 0, 1, []), (864, .ireturn, 1, []), (865, .goto 1583, 3, [2448]), (868, .aload_n 1, 1, []), (869, .aload_n 0, 1, []), (870, .iload 5, 2, []), (872, .iconst 1, 1, []), (873, .iadd, 1, []), (874, .iaload, 1, []), (875, .aload_n 0, 1, []), (876, .iload 5, 2, []), (878, .iconst 2, 1, []), (879, .iadd, 1, []), (880, .iaload, 1, []), (881, .aload_n 3, 1, []), (882, .invokestatic 173, 3, [2, 233, 4, 664]), (885, .istore 6, 2, []), (887, .aload_n 2, 1, []), (888, .aload_n 0, 1, []), (889, .iload 5, 2, []), (891, .iconst 1, 1, []), (892, .iadd, 1, []), (893, .iaload, 1, []), (894, .aload_n 0, 1, []), (895, .iload 5, 2, []), (897, .iconst 2, 1, []), (898, .iadd, 1, []), (899, .iaload, 1, []), (900, .invokevirtual 175, 3, [84, 2, 1346]), (903, .istore 7, 2, [])]
def mk_258_5 : List mg_E := [(905, .aload_n 2, 1, []), (906, .invokevirtual 142, 3, [57, 0, 1249]), (909, .iload 6, 2, []), (911, .if_icmp .eq 5, 3, [916]), (914, .iconst 0, 1, []), (915, .ireturn, 1, []), (916, .iload 6, 2, []), (918, .ifCond .ne 15, 3, [933]), (921, .aload_n 3, 1, []), (922, .iconst 0, 1, []), (923, .laload, 1, []), (924, .iload 7, 2, []), (926, .i2l, 1, []), (927, .lcmp, 1, []), (928, .ifCond .eq 5, 3, [933]), (931, .iconst 0, 1, []), (932, .ireturn, 1, []), (933, .goto 1515, 3, [2448]), (936, .aload_n 1, 1, []), (937, .aload_n 0, 1, []), (938, .iload 5, 2, []), (940, .iconst 1, 1, []), (941, .iadd, 1, []), (942, .iaload, 1, []), (943, .aload_n 0, 1, []), (944, .iload 5, 2, []), (946, .iconst 2, 1, []), (947, .iadd, 1, []), (948, .iaload, 1, []), (949, .aload_n 0, 1, []), (950, .iload 5, 2, []), (952, .iconst 3, 1, []), (953, .iadd, 1, []), (954, .iaload, 1, []), (955, .aload_n 0, 1, []), (956, .iload 5, 2, []), (958, .iconst 4, 1, []), (959, .iadd, 1, []), (960, .iaload, 1, []), (961, .aload_n 3, 1, []), (962, .invokestatic 176, 3, [2, 234, 6, 680]), (965, .istore 6, 2, []), (967, .aload_n 2, 1, []), (968, .aload_n 0, 1, []), (969, .iload 5, 2, []), (971, .iconst 1, 1, []), (972, .iadd, 1, []), (973, .iaload, 1, []), (974, .aload_n 0, 1, []), (975, .iload 5, 2, []), (977, .iconst 2, 1, []), (978, .iadd, 1, []), (979, .iaload, 1, []), (980, .aload_n 0, 1, []), (981, .iload 5, 2, []), (983, .iconst 3, 1, []), (984, .iadd, 1, []), (985, .iaload, 1, []), (986, .aload_n 0, 1, []), (987, .iload 5, 2, []), (989, .iconst 4, 1, []), (990, .iadd, 1, []), (991, .iaload, 1, []), (992, .invokevirtual 178, 3, [92, 4, 1351]), (995, .istore 7, 2, []), (997, .aload_n 2, 1, []), (998, .invokevirtual 142, 3, [57, 0, 1249]), (1001, .iload 6, 2, []), (1003, .if_icmp .eq 5, 3, [1008]), (1006, .iconst 0, 1, []), (1007, .ireturn, 1, []), (1008, .iload 6, 2, []), (1010, .ifCond .ne 15, 3, [1025]), (1013, .aload_n 3, 1, []), (1014, .iconst 0, 1, []), (1015, .laload, 1, []), (1016, .iload 7, 2, []), (1018, .i2l, 1, []), (1019, .lcmp, 1, []), (1020, .ifCond .eq 5, 3, [1025]), (1023, .iconst 0, 1, []), (1024, .ireturn, 1, []), (1025, .goto 1423, 3, [2448]), (1028, .aload_n 1, 1, []), (1029, .aload_n 0, 1, []), (1030, .iload 5, 2, []), (1032, .iconst 1, 1, []), (1033, .iadd, 1, []), (1034, .iaload, 1, []), (1035, .aload_n 0, 1, []), (1036, .iload 5, 2, []), (1038, .iconst 2, 1, []), (1039, .iadd, 1, []), (1040, .iaload, 1, []), (1041, .aload_n 0, 1, []), (1042, .iload 5, 2, []), (1044, .iconst 3, 1, []), (1045, .iadd, 1, []), (1046, .iaload, 1, []), (1047, .aload_n 0, 1, [])]
def mk_258_6 : List mg_E := [(1048, .iload 5, 2, []), (1050, .iconst 4, 1, []), (1051, .iadd, 1, []), (1052, .iaload, 1, []), (1053, .aload_n 3, 1, []), (1054, .invokestatic 179, 3, [2, 235, 6, 719]), (1057, .istore 6, 2, []), (1059, .aload_n 2, 1, []), (1060, .aload_n 0, 1, []), (1061, .iload 5, 2, []), (1063, .iconst 1, 1, []), (1064, .iadd, 1, []), (1065, .iaload, 1, []), (1066, .aload_n 0, 1, []), (1067, .iload 5, 2, []), (1069, .iconst 2, 1, []), (1070, .iadd, 1, []), (1071, .iaload, 1, []), (1072, .aload_n 0, 1, []), (1073, .iload 5, 2, []), (1075, .iconst 3, 1, []), (1076, .iadd, 1, []), (1077, .iaload, 1, []), (1078, .aload_n 0, 1, []), (1079, .iload 5, 2, []), (1081, .iconst 4, 1, []), (1082, .iadd, 1, []), (1083, .iaload, 1, []), (1084, .invokevirtual 181, 3, [93, 4, 1383]), (1087, .istore 7, 2, []), (1089, .aload_n 2, 1, []), (1090, .invokevirtual 142, 3, [57, 0, 1249]), (1093, .iload 6, 2, []), (1095, .if_icmp .eq 5, 3, [1100]), (1098, .iconst 0, 1, []), (1099, .ireturn, 1, []), (1100, .iload 6, 2, []), (1102, .ifCond .ne 15, 3, [1117]), (1105, .aload_n 3, 1, []), (1106, .iconst 0, 1, []), (1107, .laload, 1, []), (1108, .iload 7, 2, []), (1110, .i2l, 1, []), (1111, .lcmp, 1, []), (1112, .ifCond .eq 5, 3, [1117]), (1115, .iconst 0, 1, []), (1116, .ireturn, 1, []), (1117, .goto 1331, 3, [2448]), (1120, .aload_n 1, 1, []), (1121, .aload_n 0, 1, []), (1122, .iload 5, 2, []), (1124, .iconst 1, 1, []), (1125, .iadd, 1, []), (1126, .iaload, 1, []), (1127, .aload_n 0, 1, []), (1128, .iload 5, 2, []), (1130, .iconst 2, 1, []), (1131, .iadd, 1, []), (1132, .iaload, 1, []), (1133, .aload_n 0, 1, []), (1134, .iload 5, 2, []), (1136, .iconst 3, 1, []), (1137, .iadd, 1, []), (1138, .iaload, 1, []), (1139, .aload_n 0, 1, []), (1140, .iload 5, 2, []), (1142, .iconst 4, 1, []), (1143, .iadd, 1, []), (1144, .iaload, 1, []), (1145, .aload_n 3, 1, []), (1146, .invokestatic 182, 3, [2, 236, 6, 730]), (1149, .istore 6, 2, []), (1151, .aload_n 2, 1, []), (1152, .aload_n 0, 1, []), (1153, .iload 5, 2, []), (1155, .iconst 1, 1, []), (1156, .iadd, 1, []), (1157, .iaload, 1, []), (1158, .aload_n 0, 1, []), (1159, .iload 5, 2, []), (1161, .iconst 2, 1, []), (1162, .iadd, 1, []), (1163, .iaload, 1, []), (1164, .aload_n 0, 1, []), (1165, .iload 5, 2, []), (1167, .iconst 3, 1, []), (1168, .iadd, 1, []), (1169, .iaload, 1, []), (1170, .aload_n 0, 1, []), (1171, .iload 5, 2, []), (1173, .iconst 4, 1, []), (1174, .iadd, 1, []), (1175, .iaload, 1, []), (1176, .invokevirtual 184, 3, [94, 4, 1391]), (1179, .istore 7, 2, []), (1181, .aload_n 2, 1, []), (1182, .invokevirtual 142, 3, [57, 0, 1249]), (1185, .iload 6, 2, []), (1187, .if_icmp .eq 5, 3, [1192]), (1190, .iconst 0, 1, [])]
def mk_258_7 : List mg_E := [(1191, .ireturn, 1, []), (1192, .iload 6, 2, []), (1194, .ifCond .ne 15, 3, [1209]), (1197, .aload_n 3, 1, []), (1198, .iconst 0, 1, []), (1199, .laload, 1, []), (1200, .iload 7, 2, []), (1202, .i2l, 1, []), (1203, .lcmp, 1, []), (1204, .ifCond .eq 5, 3, [1209]), (1207, .iconst 0, 1, []), (1208, .ireturn, 1, []), (1209, .goto 1239, 3, [2448]), (1212, .aload_n 1, 1, []), (1213, .aload_n 0, 1, []), (1214, .iload 5, 2, []), (1216, .iconst 1, 1, []), (1217, .iadd, 1, []), (1218, .iaload, 1, []), (1219, .aload_n 0, 1, []), (1220, .iload 5, 2, []), (1222, .iconst 2, 1, []), (1223, .iadd, 1, []), (1224, .iaload, 1, []), (1225, .aload_n 3, 1, []), (1226, .invokestatic 185, 3, [2, 237, 4, 743]), (1229, .istore 6, 2, []), (1231, .aload_n 2, 1, []), (1232, .aload_n 0, 1, []), (1233, .iload 5, 2, []), (1235, .iconst 1, 1, []), (1236, .iadd, 1, []), (1237, .iaload, 1, []), (1238, .aload_n 0, 1, []), (1239, .iload 5, 2, []), (1241, .iconst 2, 1, []), (1242, .iadd, 1, []), (1243, .iaload, 1, []), (1244, .invokevirtual 187, 3, [95, 2, 1395]), (1247, .istore 7, 2, []), (1249, .aload_n 2, 1, []), (1250, .invokevirtual 142, 3, [57, 0, 1249]), (1253, .iload 6, 2, []), (1255, .if_icmp .eq 5, 3, [1260]), (1258, .iconst 0, 1, []), (1259, .ireturn, 1, []), (1260, .iload 6, 2, []), (1262, .ifCond .ne 15, 3, [1277]), (1265, .aload_n 3, 1, []), (1266, .iconst 0, 1, []), (1267, .laload, 1, []), (1268, .iload 7, 2, []), (1270, .i2l, 1, []), (1271, .lcmp, 1, []), (1272, .ifCond .eq 5, 3, [1277]), (1275, .iconst 0, 1, []), (1276, .ireturn, 1, []), (1277, .goto 1171, 3, [2448]), (1280, .aload_n 1, 1, []), (1281, .invokevirtual 188, 3, [15, 0, 309]), (1284, .aload_n 2, 1, []), (1285, .invokevirtual 191, 3, [96, 0, 1399]), (1288, .if_icmp .eq 1160, 3, [2448]), (1291, .iconst 0, 1, []), (1292, .ireturn, 1, []), (1293, .aload_n 1, 1, []), (1294, .aload_n 3, 1, []), (1295, .invokestatic 192, 3, [2, 238, 2, 758]), (1298, .istore 6, 2, []), (1300, .aload_n 2, 1, []), (1301, .invokevirtual 195, 3, [99, 0, 1403]), (1304, .istore 7, 2, []), (1306, .aload_n 2, 1, []), (1307, .invokevirtual 142, 3, [57, 0, 1249]), (1310, .iload 6, 2, []), (1312, .if_icmp .eq 5, 3, [1317]), (1315, .iconst 0, 1, []), (1316, .ireturn, 1, []), (1317, .iload 6, 2, []), (1319, .ifCond .ne 15, 3, [1334]), (1322, .aload_n 3, 1, []), (1323, .iconst 0, 1, []), (1324, .laload, 1, []), (1325, .iload 7, 2, []), (1327, .i2l, 1, []), (1328, .lcmp, 1, []), (1329, .ifCond .eq 5, 3, [1334]), (1332, .iconst 0, 1, []), (1333, .ireturn, 1, []), (1334, .goto 1114, 3, [2448]), (1337, .aload_n 1, 1, []), (1338, .aload_n 0, 1, []), (1339, .iload 5, 2, []), (1341, .iconst 1, 1, []), (1342, .iadd, 1, []), (1343, .iaload, 1, []), (1344, .aload_n 0, 1, []), (1345, .iload 5, 2, []), (1347, .iconst 2, 1, []), (1348, .iadd, 1, [])]
def mk_258_8 : List mg_E := [(1349, .iaload, 1, []), (1350, .aload_n 0, 1, []), (1351, .iload 5, 2, []), (1353, .iconst 3, 1, []), (1354, .iadd, 1, []), (1355, .iaload, 1, []), (1356, .aload_n 0, 1, []), (1357, .iload 5, 2, []), (1359, .iconst 4, 1, []), (1360, .iadd, 1, []), (1361, .iaload, 1, []), (1362, .aload_n 3, 1, []), (1363, .invokestatic 196, 3, [2, 239, 6, 780]), (1366, .istore 6, 2, []), (1368, .aload_n 2, 1, []), (1369, .aload_n 0, 1, []), (1370, .iload 5, 2, []), (1372, .iconst 1, 1, []), (1373, .iadd, 1, []), (1374, .iaload, 1, []), (1375, .aload_n 0, 1, []), (1376, .iload 5, 2, []), (1378, .iconst 2, 1, []), (1379, .iadd, 1, []), (1380, .iaload, 1, []), (1381, .aload_n 0, 1, []), (1382, .iload 5, 2, []), (1384, .iconst 3, 1, []), (1385, .iadd, 1, []), (1386, .iaload, 1, []), (1387, .aload_n 0, 1, []), (1388, .iload 5, 2, []), (1390, .iconst 4, 1, []), (1391, .iadd, 1, []), (1392, .iaload, 1, []), (1393, .invokevirtual 198, 3, [100, 4, 1415]), (1396, .istore 7, 2, []), (1398, .aload_n 2, 1, []), (1399, .invokevirtual 142, 3, [57, 0, 1249]), (1402, .iload 6, 2, []), (1404, .if_icmp .eq 5, 3, [1409]), (1407, .iconst 0, 1, []), (1408, .ireturn, 1, []), (1409, .iload 6, 2, []), (1411, .ifCond .ne 15, 3, [1426]), (1414, .aload_n 3, 1, []), (1415, .iconst 0, 1, []), (1416, .laload, 1, []), (1417, .iload 7, 2, []), (1419, .i2l, 1, []), (1420, .lcmp, 1, []), (1421, .ifCond .eq 5, 3, [1426]), (1424, .iconst 0, 1, []), (1425, .ireturn, 1, []), (1426, .goto 1022, 3, [2448]), (1429, .aload_n 1, 1, []), (1430, .aload_n 0, 1, []), (1431, .iload 5, 2, []), (1433, .iconst 1, 1, []), (1434, .iadd, 1, []), (1435, .iaload, 1, []), (1436, .aload_n 0, 1, []), (1437, .iload 5, 2, []), (1439, .iconst 2, 1, []), (1440, .iadd, 1, []), (1441, .iaload, 1, []), (1442, .aload_n 3, 1, []), (1443, .invokestatic 199, 3, [2, 240, 4, 799]), (1446, .istore 6, 2, []), (1448, .aload_n 2, 1, []), (1449, .aload_n 0, 1, []), (1450, .iload 5, 2, []), (1452, .iconst 1, 1, []), (1453, .iadd, 1, []), (1454, .iaload, 1, []), (1455, .aload_n 0, 1, []), (1456, .iload 5, 2, []), (1458, .iconst 2, 1, []), (1459, .iadd, 1, []), (1460, .iaload, 1, []), (1461, .invokevirtual 201, 3, [102, 2, 1419]), (1464, .istore 7, 2, []), (1466, .aload_n 2, 1, []), (1467, .invokevirtual 142, 3, [57, 0, 1249]), (1470, .iload 6, 2, []), (1472, .if_icmp .eq 5, 3, [1477]), (1475, .iconst 0, 1, []), (1476, .ireturn, 1, []), (1477, .iload 6, 2, []), (1479, .ifCond .ne 15, 3, [1494]), (1482, .aload_n 3, 1, []), (1483, .iconst 0, 1, []), (1484, .laload, 1, []), (1485, .iload 7, 2, []), (1487, .i2l, 1, []), (1488, .lcmp, 1, []), (1489, .ifCond .eq 5, 3, [1494]), (1492, .iconst 0, 1, []), (1493, .ireturn, 1, []), (1494, .goto 954, 3, [2448])]
def mk_258_9 : List mg_E := [(1497, .aload_n 1, 1, []), (1498, .aload_n 0, 1, []), (1499, .iload 5, 2, []), (1501, .iconst 1, 1, []), (1502, .iadd, 1, []), (1503, .iaload, 1, []), (1504, .aload_n 3, 1, []), (1505, .invokestatic 202, 3, [2, 241, 3, 812]), (1508, .istore 6, 2, []), (1510, .aload_n 2, 1, []), (1511, .aload_n 0, 1, []), (1512, .iload 5, 2, []), (1514, .iconst 1, 1, []), (1515, .iadd, 1, []), (1516, .iaload, 1, []), (1517, .invokevirtual 204, 3, [106, 1, 1431]), (1520, .istore 7, 2, []), (1522, .aload_n 2, 1, []), (1523, .invokevirtual 142, 3, [57, 0, 1249]), (1526, .iload 6, 2, []), (1528, .if_icmp .eq 5, 3, [1533]), (1531, .iconst 0, 1, []), (1532, .ireturn, 1, []), (1533, .iload 6, 2, []), (1535, .ifCond .ne 15, 3, [1550]), (1538, .aload_n 3, 1, []), (1539, .iconst 0, 1, []), (1540, .laload, 1, []), (1541, .iload 7, 2, []), (1543, .i2l, 1, []), (1544, .lcmp, 1, []), (1545, .ifCond .eq 5, 3, [1550]), (1548, .iconst 0, 1, []), (1549, .ireturn, 1, []), (1550, .goto 898, 3, [2448]), (1553, .aload_n 1, 1, []), (1554, .aload_n 0, 1, []), (1555, .iload 5, 2, []), (1557, .iconst 1, 1, []), (1558, .iadd, 1, []), (1559, .iaload, 1, []), (1560, .aload_n 3, 1, []), (1561, .invokestatic 205, 3, [2, 242, 3, 837]), (1564, .istore 6, 2, []), (1566, .aload_n 2, 1, []), (1567, .aload_n 0, 1, []), (1568, .iload 5, 2, []), (1570, .iconst 1, 1, []), (1571, .iadd, 1, []), (1572, .iaload, 1, []), (1573, .invokevirtual 207, 3, [109, 1, 1443]), (1576, .istore 7, 2, []), (1578, .aload_n 2, 1, []), (1579, .invokevirtual 142, 3, [57, 0, 1249]), (1582, .iload 6, 2, []), (1584, .if_icmp .eq 5, 3, [1589]), (1587, .iconst 0, 1, []), (1588, .ireturn, 1, []), (1589, .iload 6, 2, []), (1591, .ifCond .ne 15, 3, [1606]), (1594, .aload_n 3, 1, []), (1595, .iconst 0, 1, []), (1596, .laload, 1, []), (1597, .iload 7, 2, []), (1599, .i2l, 1, []), (1600, .lcmp, 1, []), (1601, .ifCond .eq 5, 3, [1606]), (1604, .iconst 0, 1, []), (1605, .ireturn, 1, []), (1606, .goto 842, 3, [2448]), (1609, .aload_n 1, 1, []), (1610, .aload_n 0, 1, []), (1611, .iload 5, 2, []), (1613, .iconst 1, 1, []), (1614, .iadd, 1, []), (1615, .iaload, 1, []), (1616, .aload_n 3, 1, []), (1617, .invokestatic 208, 3, [2, 243, 3, 855]), (1620, .istore 6, 2, []), (1622, .aload_n 2, 1, []), (1623, .aload_n 0, 1, []), (1624, .iload 5, 2, []), (1626, .iconst 1, 1, []), (1627, .iadd, 1, []), (1628, .iaload, 1, []), (1629, .invokevirtual 210, 3, [113, 1, 1455]), (1632, .istore 7, 2, []), (1634, .aload_n 2, 1, []), (1635, .invokevirtual 142, 3, [57, 0, 1249]), (1638, .iload 6, 2, []), (1640, .if_icmp .eq 5, 3, [1645]), (1643, .iconst 0, 1, []), (1644, .ireturn, 1, []), (1645, .iload 6, 2, []), (1647, .ifCond .ne 15, 3, [1662]), (1650, .aload_n 3, 1, []), (1651, .iconst 0, 1, []), (1652, .laload, 1, []), (1653, .iload 7, 2, []), (1655, .i2l, 1, [])]
def mk_258_10 : List mg_E := [(1656, .lcmp, 1, []), (1657, .ifCond .eq 5, 3, [1662]), (1660, .iconst 0, 1, []), (1661, .ireturn, 1, []), (1662, .goto 786, 3, [2448]), (1665, .aload_n 1, 1, []), (1666, .aload_n 0, 1, []), (1667, .iload 5, 2, []), (1669, .iconst 1, 1, []), (1670, .iadd, 1, []), (1671, .iaload, 1, []), (1672, .aload_n 3, 1, []), (1673, .invokestatic 211, 3, [2, 244, 3, 906]), (1676, .istore 6, 2, []), (1678, .aload_n 2, 1, []), (1679, .aload_n 0, 1, []), (1680, .iload 5, 2, []), (1682, .iconst 1, 1, []), (1683, .iadd, 1, []), (1684, .iaload, 1, []), (1685, .invokevirtual 213, 3, [116, 1, 1475]), (1688, .istore 7, 2, []), (1690, .aload_n 2, 1, []), (1691, .invokevirtual 142, 3, [57, 0, 1249]), (1694, .iload 6, 2, []), (1696, .if_icmp .eq 5, 3, [1701]), (1699, .iconst 0, 1, []), (1700, .ireturn, 1, []), (1701, .iload 6, 2, []), (1703, .ifCond .ne 15, 3, [1718]), (1706, .aload_n 3, 1, []), (1707, .iconst 0, 1, []), (1708, .laload, 1, []), (1709, .iload 7, 2, []), (1711, .i2l, 1, []), (1712, .lcmp, 1, []), (1713, .ifCond .eq 5, 3, [1718]), (1716, .iconst 0, 1, []), (1717, .ireturn, 1, []), (1718, .goto 730, 3, [2448]), (1721, .aload_n 1, 1, []), (1722, .aload_n 0, 1, []), (1723, .iload 5, 2, []), (1725, .iconst 1, 1, []), (1726, .iadd, 1, []), (1727, .iaload, 1, []), (1728, .aload_n 0, 1, []), (1729, .iload 5, 2, []), (1731, .iconst 2, 1, []), (1732, .iadd, 1, []), (1733, .iaload, 1, []), (1734, .aload_n 3, 1, []), (1735, .invokestatic 214, 3, [2, 245, 4, 958]), (1738, .istore 6, 2, []), (1740, .aload_n 2, 1, []), (1741, .aload_n 0, 1, []), (1742, .iload 5, 2, []), (1744, .iconst 1, 1, []), (1745, .iadd, 1, []), (1746, .iaload, 1, []), (1747, .aload_n 0, 1, []), (1748, .iload 5, 2, []), (1750, .iconst 2, 1, []), (1751, .iadd, 1, []), (1752, .iaload, 1, []), (1753, .invokevirtual 216, 3, [117, 2, 1487]), (1756, .istore 7, 2, []), (1758, .aload_n 2, 1, []), (1759, .invokevirtual 142, 3, [57, 0, 1249]), (1762, .iload 6, 2, []), (1764, .if_icmp .eq 5, 3, [1769]), (1767, .iconst 0, 1, []), (1768, .ireturn, 1, []), (1769, .iload 6, 2, []), (1771, .ifCond .ne 15, 3, [1786]), (1774, .aload_n 3, 1, []), (1775, .iconst 0, 1, []), (1776, .laload, 1, []), (1777, .iload 7, 2, []), (1779, .i2l, 1, []), (1780, .lcmp, 1, []), (1781, .ifCond .eq 5, 3, [1786]), (1784, .iconst 0, 1, []), (1785, .ireturn, 1, []), (1786, .goto 662, 3, [2448]), (1789, .aload_n 1, 1, []), (1790, .aload_n 3, 1, []), (1791, .invokestatic 217, 3, [2, 246, 2, 970]), (1794, .istore 6, 2, []), (1796, .aload_n 2, 1, []), (1797, .invokevirtual 219, 3, [118, 0, 1491]), (1800, .istore 7, 2, []), (1802, .aload_n 2, 1, []), (1803, .invokevirtual 142, 3, [57, 0, 1249]), (1806, .iload 6, 2, []), (1808, .if_icmp .eq 5, 3, [1813]), (1811, .iconst 0, 1, []), (1812, .ireturn, 1, []), (1813, .iload 6, 2, []), (1815, .ifCond .ne 15, 3, [1830])]
def mk_258_11 : List mg_E := [(1818, .aload_n 3, 1, []), (1819, .iconst 0, 1, []), (1820, .laload, 1, []), (1821, .iload 7, 2, []), (1823, .i2l, 1, []), (1824, .lcmp, 1, []), (1825, .ifCond .eq 5, 3, [1830]), (1828, .iconst 0, 1, []), (1829, .ireturn, 1, []), (1830, .goto 618, 3, [2448]), (1833, .aload_n 1, 1, []), (1834, .aload_n 0, 1, []), (1835, .iload 5, 2, []), (1837, .iconst 1, 1, []), (1838, .iadd, 1, []), (1839, .iaload, 1, []), (1840, .aload_n 3, 1, []), (1841, .invokestatic 220, 3, [2, 247, 3, 978]), (1844, .istore 6, 2, []), (1846, .aload_n 2, 1, []), (1847, .aload_n 0, 1, []), (1848, .iload 5, 2, []), (1850, .iconst 1, 1, []), (1851, .iadd, 1, []), (1852, .iaload, 1, []), (1853, .invokevirtual 222, 3, [120, 1, 1495]), (1856, .istore 7, 2, []), (1858, .aload_n 2, 1, []), (1859, .invokevirtual 142, 3, [57, 0, 1249]), (1862, .iload 6, 2, []), (1864, .if_icmp .eq 5, 3, [1869]), (1867, .iconst 0, 1, []), (1868, .ireturn, 1, []), (1869, .iload 6, 2, []), (1871, .ifCond .ne 15, 3, [1886]), (1874, .aload_n 3, 1, []), (1875, .iconst 0, 1, []), (1876, .laload, 1, []), (1877, .iload 7, 2, []), (1879, .i2l, 1, []), (1880, .lcmp, 1, []), (1881, .ifCond .eq 5, 3, [1886]), (1884, .iconst 0, 1, []), (1885, .ireturn, 1, []), (1886, .goto 562, 3, [2448]), (1889, .aload_n 1, 1, []), (1890, .aload_n 0, 1, []), (1891, .iload 5, 2, []), (1893, .iconst 1, 1, []), (1894, .iadd, 1, []), (1895, .iaload, 1, []), (1896, .aload_n 3, 1, []), (1897, .invokestatic 223, 3, [2, 248, 3, 998]), (1900, .istore 6, 2, []), (1902, .aload_n 2, 1, []), (1903, .aload_n 0, 1, []), (1904, .iload 5, 2, []), (1906, .iconst 1, 1, []), (1907, .iadd, 1, []), (1908, .iaload, 1, []), (1909, .invokevirtual 225, 3, [122, 1, 1503]), (1912, .istore 7, 2, []), (1914, .aload_n 2, 1, []), (1915, .invokevirtual 142, 3, [57, 0, 1249]), (1918, .iload 6, 2, []), (1920, .if_icmp .eq 5, 3, [1925]), (1923, .iconst 0, 1, []), (1924, .ireturn, 1, []), (1925, .iload 6, 2, []), (1927, .ifCond .ne 15, 3, [1942]), (1930, .aload_n 3, 1, []), (1931, .iconst 0, 1, []), (1932, .laload, 1, []), (1933, .iload 7, 2, []), (1935, .i2l, 1, []), (1936, .lcmp, 1, []), (1937, .ifCond .eq 5, 3, [1942]), (1940, .iconst 0, 1, []), (1941, .ireturn, 1, []), (1942, .goto 506, 3, [2448]), (1945, .aload_n 1, 1, []), (1946, .aload_n 0, 1, []), (1947, .iload 5, 2, []), (1949, .iconst 1, 1, []), (1950, .iadd, 1, []), (1951, .iaload, 1, []), (1952, .aload_n 3, 1, []), (1953, .invokestatic 226, 3, [2, 249, 3, 1005]), (1956, .istore 6, 2, []), (1958, .aload_n 2, 1, []), (1959, .aload_n 0, 1, []), (1960, .iload 5, 2, []), (1962, .iconst 1, 1, []), (1963, .iadd, 1, []), (1964, .iaload, 1, []), (1965, .invokevirtual 228, 3, [123, 1, 1507]), (1968, .istore 7, 2, []), (1970, .aload_n 2, 1, []), (1971, .invokevirtual 142, 3, [57, 0, 1249]), (1974, .iload 6, 2, [])]
def mk_258_12 : List mg_E := [(1976, .if_icmp .eq 5, 3, [1981]), (1979, .iconst 0, 1, []), (1980, .ireturn, 1, []), (1981, .iload 6, 2, []), (1983, .ifCond .ne 15, 3, [1998]), (1986, .aload_n 3, 1, []), (1987, .iconst 0, 1, []), (1988, .laload, 1, []), (1989, .iload 7, 2, []), (1991, .i2l, 1, []), (1992, .lcmp, 1, []), (1993, .ifCond .eq 5, 3, [1998]), (1996, .iconst 0, 1, []), (1997, .ireturn, 1, []), (1998, .goto 450, 3, [2448]), (2001, .aload_n 1, 1, []), (2002, .aload_n 0, 1, []), (2003, .iload 5, 2, []), (2005, .iconst 1, 1, []), (2006, .iadd, 1, []), (2007, .iaload, 1, []), (2008, .aload_n 3, 1, []), (2009, .invokestatic 229, 3, [2, 250, 3, 1013]), (2012, .istore 6, 2, []), (2014, .aload_n 2, 1, []), (2015, .aload_n 0, 1, []), (2016, .iload 5, 2, []), (2018, .iconst 1, 1, []), (2019, .iadd, 1, []), (2020, .iaload, 1, []), (2021, .invokevirtual 231, 3, [124, 1, 1515]), (2024, .istore 7, 2, []), (2026, .aload_n 2, 1, []), (2027, .invokevirtual 142, 3, [57, 0, 1249]), (2030, .iload 6, 2, []), (2032, .if_icmp .eq 5, 3, [2037]), (2035, .iconst 0, 1, []), (2036, .ireturn, 1, []), (2037, .iload 6, 2, []), (2039, .ifCond .ne 15, 3, [2054]), (2042, .aload_n 3, 1, []), (2043, .iconst 0, 1, []), (2044, .laload, 1, []), (2045, .iload 7, 2, []), (2047, .i2l, 1, []), (2048, .lcmp, 1, []), (2049, .ifCond .eq 5, 3, [2054]), (2052, .iconst 0, 1, []), (2053, .ireturn, 1, []), (2054, .goto 394, 3, [2448]), (2057, .aload_n 1, 1, []), (2058, .aload 4, 2, []), (2060, .invokestatic 232, 3, [2, 251, 2, 1021]), (2063, .istore 6, 2, []), (2065, .aload_n 2, 1, []), (2066, .invokevirtual 235, 3, [125, 0, 1519]), (2069, .dstore 7, 2, []), (2071, .aload_n 2, 1, []), (2072, .invokevirtual 142, 3, [57, 0, 1249]), (2075, .iload 6, 2, []), (2077, .if_icmp .eq 5, 3, [2082]), (2080, .iconst 0, 1, []), (2081, .ireturn, 1, []), (2082, .iload 6, 2, []), (2084, .ifCond .ne 35, 3, [2119]), (2087, .aload 4, 2, []), (2089, .iconst 0, 1, []), (2090, .daload, 1, []), (2091, .dload 7, 2, []), (2093, .dcmp .l, 1, []), (2094, .ifCond .eq 25, 3, [2119]), (2097, .aload 4, 2, []), (2099, .iconst 0, 1, []), (2100, .daload, 1, []), (2101, .aload 4, 2, []), (2103, .iconst 0, 1, []), (2104, .daload, 1, []), (2105, .dcmp .l, 1, []), (2106, .ifCond .eq 11, 3, [2117]), (2109, .dload 7, 2, []), (2111, .dload 7, 2, []), (2113, .dcmp .l, 1, []), (2114, .ifCond .ne 5, 3, [2119]), (2117, .iconst 0, 1, []), (2118, .ireturn, 1, []), (2119, .goto 329, 3, [2448]), (2122, .aload_n 1, 1, []), (2123, .aload 4, 2, []), (2125, .invokestatic 236, 3, [2, 252, 2, 1045]), (2128, .istore 6, 2, []), (2130, .aload_n 2, 1, []), (2131, .invokevirtual 238, 3, [126, 0, 1523]), (2134, .fstore 7, 2, []), (2136, .aload_n 2, 1, []), (2137, .invokevirtual 142, 3, [57, 0, 1249]), (2140, .iload 6, 2, []), (2142, .if_icmp .eq 5, 3, [2147]), (2145, .iconst 0, 1, []), (2146, .ireturn, 1, []), (2147, .iload 6, 2, [])]
def mk_258_13 : List mg_E := [(2149, .ifCond .ne 36, 3, [2185]), (2152, .aload 4, 2, []), (2154, .iconst 0, 1, []), (2155, .daload, 1, []), (2156, .fload 7, 2, []), (2158, .f2d, 1, []), (2159, .dcmp .l, 1, []), (2160, .ifCond .eq 25, 3, [2185]), (2163, .aload 4, 2, []), (2165, .iconst 0, 1, []), (2166, .daload, 1, []), (2167, .aload 4, 2, []), (2169, .iconst 0, 1, []), (2170, .daload, 1, []), (2171, .dcmp .l, 1, []), (2172, .ifCond .eq 11, 3, [2183]), (2175, .fload 7, 2, []), (2177, .fload 7, 2, []), (2179, .fcmp .l, 1, []), (2180, .ifCond .ne 5, 3, [2185]), (2183, .iconst 0, 1, []), (2184, .ireturn, 1, []), (2185, .goto 263, 3, [2448]), (2188, .aload_n 1, 1, []), (2189, .aload_n 0, 1, []), (2190, .iload 5, 2, []), (2192, .iconst 1, 1, []), (2193, .iadd, 1, []), (2194, .iaload, 1, []), (2195, .i2c, 1, []), (2196, .aload_n 3, 1, []), (2197, .invokestatic 239, 3, [2, 253, 3, 1057]), (2200, .istore 6, 2, []), (2202, .aload_n 2, 1, []), (2203, .aload_n 0, 1, []), (2204, .iload 5, 2, []), (2206, .iconst 1, 1, []), (2207, .iadd, 1, []), (2208, .iaload, 1, []), (2209, .i2c, 1, []), (2210, .invokevirtual 242, 3, [127, 1, 1527]), (2213, .istore 7, 2, []), (2215, .aload_n 2, 1, []), (2216, .invokevirtual 142, 3, [57, 0, 1249]), (2219, .iload 6, 2, []), (2221, .if_icmp .eq 5, 3, [2226]), (2224, .iconst 0, 1, []), (2225, .ireturn, 1, []), (2226, .iload 6, 2, []), (2228, .ifCond .ne 15, 3, [2243]), (2231, .aload_n 3, 1, []), (2232, .iconst 0, 1, []), (2233, .laload, 1, []), (2234, .iload 7, 2, []), (2236, .i2l, 1, []), (2237, .lcmp, 1, []), (2238, .ifCond .eq 5, 3, [2243]), (2241, .iconst 0, 1, []), (2242, .ireturn, 1, []), (2243, .goto 205, 3, [2448]), (2246, .aload_n 1, 1, []), (2247, .aload_n 3, 1, []), (2248, .invokestatic 243, 3, [2, 254, 2, 1070]), (2251, .istore 6, 2, []), (2253, .aload_n 2, 1, []), (2254, .invokevirtual 245, 3, [135, 0, 1531]), (2257, .istore 7, 2, []), (2259, .aload_n 2, 1, []), (2260, .invokevirtual 142, 3, [57, 0, 1249]), (2263, .iload 6, 2, []), (2265, .if_icmp .eq 5, 3, [2270]), (2268, .iconst 0, 1, []), (2269, .ireturn, 1, []), (2270, .iload 6, 2, []), (2272, .ifCond .ne 15, 3, [2287]), (2275, .aload_n 3, 1, []), (2276, .iconst 0, 1, []), (2277, .laload, 1, []), (2278, .iload 7, 2, []), (2280, .i2l, 1, []), (2281, .lcmp, 1, []), (2282, .ifCond .eq 5, 3, [2287]), (2285, .iconst 0, 1, []), (2286, .ireturn, 1, []), (2287, .goto 161, 3, [2448]), (2290, .aload_n 1, 1, []), (2291, .aload_n 3, 1, []), (2292, .invokestatic 246, 3, [2, 255, 2, 1147]), (2295, .istore 6, 2, []), (2297, .aload_n 2, 1, []), (2298, .invokevirtual 248, 3, [136, 0, 1565]), (2301, .istore 7, 2, []), (2303, .aload_n 2, 1, []), (2304, .invokevirtual 142, 3, [57, 0, 1249]), (2307, .iload 6, 2, []), (2309, .if_icmp .eq 5, 3, [2314]), (2312, .iconst 0, 1, []), (2313, .ireturn, 1, []), (2314, .iload 6, 2, []), (2316, .ifCond .ne 15, 3, [2331])]
def mk_258_14 : List mg_E := [(2319, .aload_n 3, 1, []), (2320, .iconst 0, 1, []), (2321, .laload, 1, []), (2322, .iload 7, 2, []), (2324, .i2l, 1, []), (2325, .lcmp, 1, []), (2326, .ifCond .eq 5, 3, [2331]), (2329, .iconst 0, 1, []), (2330, .ireturn, 1, []), (2331, .goto 117, 3, [2448]), (2334, .aload_n 1, 1, []), (2335, .invokevirtual 249, 3, [34, 0, 362]), (2338, .aload_n 2, 1, []), (2339, .invokevirtual 252, 3, [137, 0, 1569]), (2342, .if_icmp .eq 106, 3, [2448]), (2345, .iconst 0, 1, []), (2346, .ireturn, 1, []), (2347, .aload_n 1, 1, []), (2348, .aload_n 3, 1, []), (2349, .invokestatic 253, 3, [2, 256, 2, 1155]), (2352, .istore 6, 2, []), (2354, .aload_n 2, 1, []), (2355, .invokevirtual 255, 3, [138, 0, 1573]), (2358, .istore 7, 2, []), (2360, .aload_n 2, 1, []), (2361, .invokevirtual 142, 3, [57, 0, 1249]), (2364, .iload 6, 2, []), (2366, .if_icmp .eq 5, 3, [2371]), (2369, .iconst 0, 1, []), (2370, .ireturn, 1, []), (2371, .iload 6, 2, []), (2373, .ifCond .ne 15, 3, [2388]), (2376, .aload_n 3, 1, []), (2377, .iconst 0, 1, []), (2378, .laload, 1, []), (2379, .iload 7, 2, []), (2381, .i2l, 1, []), (2382, .lcmp, 1, []), (2383, .ifCond .eq 5, 3, [2388]), (2386, .iconst 0, 1, []), (2387, .ireturn, 1, []), (2388, .goto 60, 3, [2448]), (2391, .aload_n 1, 1, []), (2392, .invokevirtual 256, 3, [36, 0, 366]), (2395, .aload_n 2, 1, []), (2396, .invokevirtual 259, 3, [139, 0, 1577]), (2399, .if_icmp .eq 49, 3, [2448]), (2402, .iconst 0, 1, []), (2403, .ireturn, 1, []), (2404, .aload_n 1, 1, []), (2405, .aload_n 3, 1, []), (2406, .invokestatic 260, 3, [2, 257, 2, 1186]), (2409, .istore 6, 2, []), (2411, .aload_n 2, 1, []), (2412, .invokevirtual 262, 3, [140, 0, 1581]), (2415, .istore 7, 2, []), (2417, .aload_n 2, 1, []), (2418, .invokevirtual 142, 3, [57, 0, 1249]), (2421, .iload 6, 2, []), (2423, .if_icmp .eq 5, 3, [2428]), (2426, .iconst 0, 1, []), (2427, .ireturn, 1, []), (2428, .iload 6, 2, []), (2430, .ifCond .ne 15, 3, [2445]), (2433, .aload_n 3, 1, []), (2434, .iconst 0, 1, []), (2435, .laload, 1, []), (2436, .iload 7, 2, []), (2438, .i2l, 1, []), (2439, .lcmp, 1, []), (2440, .ifCond .eq 5, 3, [2445]), (2443, .iconst 0, 1, []), (2444, .ireturn, 1, []), (2445, .goto 3, 3, [2448]), (2448, .iinc 5 6, 3, []), (2451, .goto (-2423), 3, [28]), (2454, .iconst 1, 1, []), (2455, .ireturn, 1, [])]
def mk_258 : List mg_E := mk_258_0 ++ (mk_258_1 ++ (mk_258_2 ++ (mk_258_3 ++ (mk_258_4 ++ (mk_258_5 ++ (mk_258_6 ++ (mk_258_7 ++ (mk_258_8 ++ (mk_258_9 ++ (mk_258_10 ++ (mk_258_11 ++ (mk_258_12 ++ (mk_258_13 ++ (mk_258_14))))))))))))))
def mg_codes : List (List mg_E) := [mk_0, mk_1, mk_2, mk_3, mk_4, mk_5, mk_6, mk_7, mk_8, mk_9, mk_10, mk_11, mk_12, mk_13, mk_14, mk_15, mk_16, mk_17, mk_18, mk_19, mk_20, mk_21, mk_22, mk_23, mk_24, mk_25, mk_26, mk_27, mk_28, mk_29, mk_30, mk_31, mk_32, mk_33, mk_34, mk_35, mk_36, mk_37, mk_38, mk_39, mk_40, mk_41, mk_42, mk_43, mk_44, mk_45, mk_46, mk_47, mk_48, mk_49, mk_50, mk_51, mk_52, mk_53, mk_54, mk_55, mk_56, mk_57, mk_58, mk_59, mk_60, mk_61, mk_62, mk_63, mk_64, mk_65, mk_66, mk_67, mk_68, mk_69, mk_70, mk_71, mk_72, mk_73, mk_74, mk_75, mk_76, mk_77, mk_78, mk_79, mk_80, mk_81, mk_82, mk_83, mk_84, mk_85, mk_86, mk_87, mk_88, mk_89, mk_90, mk_91, mk_92, mk_93, mk_94, mk_95, mk_96, mk_97, mk_98, mk_99, mk_100, mk_101, mk_102, mk_103, mk_104, mk_105, mk_106, mk_107, mk_108, mk_109, mk_110, mk_111, mk_112, mk_113, mk_114, mk_115, mk_116, mk_117, mk_118, mk_119, mk_120, mk_121, mk_122, mk_123, mk_124, mk_125, mk_126, mk_127, mk_128, mk_129, mk_130, mk_131, mk_132, mk_133, mk_134, mk_135, mk_136, mk_137, mk_138, mk_139, mk_140, mk_141, mk_142, mk_143, mk_144, mk_145, mk_146, mk_147, mk_148, mk_149, mk_150, mk_151, mk_152, mk_153, mk_154, mk_155, mk_156, mk_157, mk_158, mk_159, mk_160, mk_161, mk_162, mk_163, mk_164, mk_165, mk_166, mk_167, mk_168, mk_169, mk_170, mk_171, mk_172, mk_173, mk_174, mk_175, mk_176, mk_177, mk_178, mk_179, mk_180, mk_181, mk_182, mk_183, mk_184, mk_185, mk_186, mk_187, mk_188, mk_189, mk_190, mk_191, mk_192, mk_193, mk_194, mk_195, mk_196, mk_197, mk_198, mk_199, mk_200, mk_201, mk_202, mk_203, mk_204, mk_205, mk_206, mk_207, mk_208, mk_209, mk_210, mk_211, mk_212, mk_213, mk_214, mk_215, mk_216, mk_217, mk_218, mk_219, mk_220, mk_221, mk_222, mk_223, mk_224, mk_225, mk_226, mk_227, mk_228, mk_229, mk_230, mk_231, mk_232, mk_233, mk_234, mk_235, mk_236, mk_237, mk_238, mk_239, mk_240, mk_241, mk_242, mk_243, mk_244, mk_245, mk_246, mk_247, mk_248, mk_249, mk_250, mk_251, mk_252, mk_253, mk_254, mk_255, mk_256, mk_257, mk_258]
def mi_0 : mg_I := (⟨"CustomsDesk", "<init>", "()V"⟩, prog_1_method_1_code, 1, none, [], [107, 81, 106, 0])
def mi_1 : mg_I := (⟨"CustomsDesk", "heading", "(II)I"⟩, prog_1_method_2_code, 4, (some .int), [], [458, 81, 456, 457])
def mi_2 : mg_I := (⟨"CustomsDesk", "rate", "(II)I"⟩, prog_1_method_3_code, 4, (some .int), [], [541, 81, 539, 540])
def mi_3 : mg_I := (⟨"CustomsDesk", "told", "(II)I"⟩, prog_1_method_4_code, 3, (some .int), [], [555, 81, 553, 554])
def mi_4 : mg_I := (⟨"CustomsDesk", "find", "(I)I"⟩, prog_1_method_5_code, 3, (some .int), [], [576, 81, 574, 575])
def mi_5 : mg_I := (⟨"CustomsDesk", "prefer", "(IIII)I"⟩, prog_1_method_6_code, 6, (some .int), [], [604, 81, 602, 603])
def mi_6 : mg_I := (⟨"CustomsDesk", "drop", "(I)I"⟩, prog_1_method_7_code, 2, (some .int), [], [621, 81, 619, 620])
def mi_7 : mg_I := (⟨"CustomsDesk", "suspend", "(III)I"⟩, prog_1_method_8_code, 5, (some .int), [], [634, 81, 632, 633])
def mi_8 : mg_I := (⟨"CustomsDesk", "quota", "(IIIII)I"⟩, prog_1_method_9_code, 8, (some .int), [], [643, 81, 641, 642])
def mi_9 : mg_I := (⟨"CustomsDesk", "quotaTold", "(II)I"⟩, prog_1_method_10_code, 3, (some .int), [], [657, 81, 655, 656])
def mi_10 : mg_I := (⟨"CustomsDesk", "set", "(II)I"⟩, prog_1_method_11_code, 4, (some .int), [], [670, 81, 668, 669])
def mi_11 : mg_I := (⟨"CustomsDesk", "rateOf", "(IIII)I"⟩, prog_1_method_12_code, 5, (some .int), [], [686, 81, 684, 685])
def mi_12 : mg_I := (⟨"CustomsDesk", "comesFrom", "(IIII)I"⟩, prog_1_method_13_code, 6, (some .int), [], [725, 81, 723, 724])
def mi_13 : mg_I := (⟨"CustomsDesk", "missed", "(IIII)I"⟩, prog_1_method_14_code, 6, (some .int), [], [736, 81, 734, 735])
def mi_14 : mg_I := (⟨"CustomsDesk", "part", "(II)I"⟩, prog_1_method_15_code, 3, (some .int), [], [749, 81, 747, 748])
def mi_15 : mg_I := (⟨"CustomsDesk", "forget", "()I"⟩, prog_1_method_16_code, 2, (some .int), [], [312, 81, 310, 311])
def mi_16 : mg_I := (⟨"CustomsDesk", "origin", "()I"⟩, prog_1_method_17_code, 1, (some .int), [], [764, 81, 762, 763])
def mi_17 : mg_I := (⟨"CustomsDesk", "declare", "(IIII)I"⟩, prog_1_method_18_code, 6, (some .int), [], [786, 81, 784, 785])
def mi_18 : mg_I := (⟨"CustomsDesk", "declaration", "(II)I"⟩, prog_1_method_19_code, 3, (some .int), [], [805, 81, 803, 804])
def mi_19 : mg_I := (⟨"CustomsDesk", "claim", "(I)I"⟩, prog_1_method_20_code, 2, (some .int), [], [818, 81, 816, 817])
def mi_20 : mg_I := (⟨"CustomsDesk", "leftThen", "(I)I"⟩, prog_1_method_21_code, 3, (some .int), [], [843, 81, 841, 842])
def mi_21 : mg_I := (⟨"CustomsDesk", "pass", "(I)I"⟩, prog_1_method_22_code, 3, (some .int), [], [861, 81, 859, 860])
def mi_22 : mg_I := (⟨"CustomsDesk", "refund", "(I)I"⟩, prog_1_method_23_code, 2, (some .int), [], [913, 81, 911, 912])
def mi_23 : mg_I := (⟨"CustomsDesk", "prove", "(II)I"⟩, prog_1_method_24_code, 3, (some .int), [], [964, 81, 962, 963])
def mi_24 : mg_I := (⟨"CustomsDesk", "refusal", "()I"⟩, prog_1_method_25_code, 1, (some .int), [], [976, 81, 974, 975])
def mi_25 : mg_I := (⟨"CustomsDesk", "account", "(I)I"⟩, prog_1_method_26_code, 2, (some .int), [], [984, 81, 982, 983])
def mi_26 : mg_I := (⟨"CustomsDesk", "kept", "(I)I"⟩, prog_1_method_27_code, 2, (some .int), [], [1004, 81, 1002, 1003])
def mi_27 : mg_I := (⟨"CustomsDesk", "keptAgain", "(I)I"⟩, prog_1_method_28_code, 4, (some .int), [], [1011, 81, 1009, 1010])
def mi_28 : mg_I := (⟨"CustomsDesk", "keptUnder", "(I)I"⟩, prog_1_method_29_code, 4, (some .int), [], [1019, 81, 1017, 1018])
def mi_29 : mg_I := (⟨"CustomsDesk", "givenBack", "()D"⟩, prog_1_method_30_code, 1, (some .double), [], [1041, 81, 1039, 1040])
def mi_30 : mg_I := (⟨"CustomsDesk", "meanRate", "()F"⟩, prog_1_method_31_code, 2, (some .float), [], [1051, 81, 1049, 1050])
def mi_31 : mg_I := (⟨"CustomsDesk", "append", "(C)I"⟩, prog_1_method_32_code, 2, (some .int), [], [1063, 81, 1061, 1062])
def mi_32 : mg_I := (⟨"CustomsDesk", "lodge", "()I"⟩, prog_1_method_33_code, 3, (some .int), [], [1076, 81, 1074, 1075])
def mi_33 : mg_I := (⟨"CustomsDesk", "errorPosition", "()I"⟩, prog_1_method_34_code, 1, (some .int), [], [1153, 81, 1151, 1152])
def mi_34 : mg_I := (⟨"CustomsDesk", "changes", "()I"⟩, prog_1_method_35_code, 1, (some .int), [], [365, 81, 363, 364])
def mi_35 : mg_I := (⟨"CustomsDesk", "undo", "()I"⟩, prog_1_method_36_code, 1, (some .int), [], [1161, 81, 1159, 1160])
def mi_36 : mg_I := (⟨"CustomsDesk", "save", "()I"⟩, prog_1_method_37_code, 1, (some .int), [], [369, 81, 367, 368])
def mi_37 : mg_I := (⟨"CustomsDesk", "restore", "()I"⟩, prog_1_method_38_code, 1, (some .int), [], [1192, 81, 1190, 1191])
def mi_38 : mg_I := (⟨"CustomsDesk", "keepForUndo", "()V"⟩, prog_1_method_39_code, 1, none, [], [316, 81, 315, 0])
def mi_39 : mg_I := (⟨"CustomsDesk", "keepIn", "(I)V"⟩, prog_1_method_40_code, 2, none, [], [320, 81, 319, 1])
def mi_40 : mg_I := (⟨"CustomsDesk", "bringFrom", "(I)V"⟩, prog_1_method_41_code, 2, none, [], [1166, 81, 1165, 36])
def mi_41 : mg_I := (⟨"CustomsDesk", "requireHeading", "(I)V"⟩, prog_1_method_42_code, 2, none, [], [545, 81, 544, 5])
def mi_42 : mg_I := (⟨"CustomsDesk", "requireCountry", "(I)V"⟩, prog_1_method_43_code, 2, none, [], [608, 81, 607, 6])
def mi_43 : mg_I := (⟨"CustomsDesk", "requireQuota", "(I)V"⟩, prog_1_method_44_code, 2, none, [], [661, 81, 660, 7])
def mi_44 : mg_I := (⟨"CustomsDesk", "requireDeclaration", "(I)V"⟩, prog_1_method_45_code, 2, none, [], [809, 81, 808, 12])
def mi_45 : mg_I := (⟨"CustomsDesk", "requireNoRefusal", "(I)V"⟩, prog_1_method_46_code, 3, none, [], [917, 81, 916, 20])
def mi_46 : mg_I := (⟨"CustomsDesk", "goodsNow", "(IIII)LCustomsDesk$Goods;"⟩, prog_1_method_47_code, 5, (some (.object "CustomsDesk$Goods")), [], [690, 81, 689, 8])
def mi_47 : mg_I := (⟨"CustomsDesk", "areCodesKnown", "()Z"⟩, prog_1_method_48_code, 2, (some .boolean), [], [1123, 81, 1122, 31])
def mi_48 : mg_I := (⟨"CustomsDesk", "canDeclareEntries", "()Z"⟩, prog_1_method_49_code, 2, (some .boolean), [], [1128, 81, 1127, 32])
def mi_49 : mg_I := (⟨"CustomsDesk", "canDeclareEntry", "(I)Z"⟩, prog_1_method_50_code, 4, (some .boolean), [], [1132, 81, 1131, 33])
def mi_50 : mg_I := (⟨"CustomsDesk", "areEntryPartsInRange", "(I)Z"⟩, prog_1_method_51_code, 3, (some .boolean), [], [1136, 81, 1135, 34])
def mi_51 : mg_I := (⟨"CustomsDesk", "declareEntry", "(I)V"⟩, prog_1_method_52_code, 3, none, [], [1146, 81, 1145, 35])
def mi_52 : mg_I := (⟨"CustomsDesk", "isSettingValue", "(II)Z"⟩, prog_1_method_53_code, 2, (some .boolean), [], [673, 81, 672, 0])
def mi_53 : mg_I := (⟨"CustomsDesk", "isCountry", "(I)Z"⟩, prog_1_method_54_code, 1, (some .boolean), [], [611, 81, 610, 0])
def mi_54 : mg_I := (⟨"CustomsDesk", "isWithin", "(III)Z"⟩, prog_1_method_55_code, 3, (some .boolean), [], [479, 81, 478, 0])
def mi_55 : mg_I := (⟨"CustomsDesk", "scaled", "(III)I"⟩, prog_1_method_56_code, 3, (some .int), [], [875, 81, 874, 0])
def mi_56 : mg_I := (⟨"CustomsDeskModel", "<init>", "()V"⟩, prog_10_method_1_code, 1, none, [], [1198, 90, 1197, 0])
def mi_57 : mg_I := (⟨"CustomsDeskModel", "thrown", "()I"⟩, prog_10_method_2_code, 1, (some .int), [], [1252, 90, 1250, 1251])
def mi_58 : mg_I := (⟨"CustomsDeskModel", "in", "(III)Z"⟩, prog_10_method_3_code, 3, (some .boolean), [], [1263, 90, 1262, 0])
def mi_59 : mg_I := (⟨"CustomsDeskModel", "fails", "(I)I"⟩, prog_10_method_4_code, 2, (some .int), [], [1267, 90, 1266, 38])
def mi_60 : mg_I := (⟨"CustomsDeskModel", "done", "(I)I"⟩, prog_10_method_5_code, 2, (some .int), [], [1290, 90, 1289, 43])
def mi_61 : mg_I := (⟨"CustomsDeskModel", "copy", "([II[II)V"⟩, prog_10_method_6_code, 5, none, [], [1286, 90, 1285, 0])
def mi_62 : mg_I := (⟨"CustomsDeskModel", "remembersRow", "([I)V"⟩, prog_10_method_7_code, 3, none, [], [1283, 90, 1282, 42])
def mi_63 : mg_I := (⟨"CustomsDeskModel", "remembers", "()V"⟩, prog_10_method_8_code, 1, none, [], [1279, 90, 1278, 41])
def mi_64 : mg_I := (⟨"CustomsDeskModel", "isHead", "(I)Z"⟩, prog_10_method_9_code, 2, (some .boolean), [], [1260, 90, 1259, 37])
def mi_65 : mg_I := (⟨"CustomsDeskModel", "isCountry", "(I)Z"⟩, prog_10_method_10_code, 1, (some .boolean), [], [1325, 90, 1324, 0])
def mi_66 : mg_I := (⟨"CustomsDeskModel", "headAt", "(II)I"⟩, prog_10_method_11_code, 3, (some .int), [], [1271, 90, 1270, 39])
def mi_67 : mg_I := (⟨"CustomsDeskModel", "quotaAt", "(II)I"⟩, prog_10_method_12_code, 3, (some .int), [], [1345, 90, 1344, 48])
def mi_68 : mg_I := (⟨"CustomsDeskModel", "declAt", "(II)I"⟩, prog_10_method_13_code, 3, (some .int), [], [1430, 90, 1429, 60])
def mi_69 : mg_I := (⟨"CustomsDeskModel", "lengthOf", "(I)I"⟩, prog_10_method_14_code, 4, (some .int), [], [1275, 90, 1274, 40])
def mi_70 : mg_I := (⟨"CustomsDeskModel", "isUnder", "(II)Z"⟩, prog_10_method_15_code, 4, (some .boolean), [], [1374, 90, 1373, 53])
def mi_71 : mg_I := (⟨"CustomsDeskModel", "rateAt", "(I)I"⟩, prog_10_method_16_code, 3, (some .int), [], [1302, 90, 1301, 44])
def mi_72 : mg_I := (⟨"CustomsDeskModel", "children", "(I)I"⟩, prog_10_method_17_code, 4, (some .int), [], [1306, 90, 1305, 45])
def mi_73 : mg_I := (⟨"CustomsDeskModel", "codeOf", "(I)I"⟩, prog_10_method_18_code, 5, (some .int), [], [1310, 90, 1309, 46])
def mi_74 : mg_I := (⟨"CustomsDeskModel", "coded", "(I)I"⟩, prog_10_method_19_code, 3, (some .int), [], [1318, 90, 1317, 47])
def mi_75 : mg_I := (⟨"CustomsDeskModel", "heading", "(II)I"⟩, prog_10_method_20_code, 5, (some .int), [], [1256, 90, 1254, 1255])
def mi_76 : mg_I := (⟨"CustomsDeskModel", "rate", "(II)I"⟩, prog_10_method_21_code, 4, (some .int), [], [1294, 90, 1292, 1293])
def mi_77 : mg_I := (⟨"CustomsDeskModel", "told", "(II)I"⟩, prog_10_method_22_code, 3, (some .int), [], [1298, 90, 1296, 1297])
def mi_78 : mg_I := (⟨"CustomsDeskModel", "find", "(I)I"⟩, prog_10_method_23_code, 3, (some .int), [], [1314, 90, 1312, 1313])
def mi_79 : mg_I := (⟨"CustomsDeskModel", "prefer", "(IIII)I"⟩, prog_10_method_24_code, 6, (some .int), [], [1322, 90, 1320, 1321])
def mi_80 : mg_I := (⟨"CustomsDeskModel", "drop", "(I)I"⟩, prog_10_method_25_code, 3, (some .int), [], [1329, 90, 1327, 1328])
def mi_81 : mg_I := (⟨"CustomsDeskModel", "suspend", "(III)I"⟩, prog_10_method_26_code, 5, (some .int), [], [1333, 90, 1331, 1332])
def mi_82 : mg_I := (⟨"CustomsDeskModel", "quota", "(IIIII)I"⟩, prog_10_method_27_code, 7, (some .int), [], [1337, 90, 1335, 1336])
def mi_83 : mg_I := (⟨"CustomsDeskModel", "quotaTold", "(II)I"⟩, prog_10_method_28_code, 3, (some .int), [], [1341, 90, 1339, 1340])
def mi_84 : mg_I := (⟨"CustomsDeskModel", "set", "(II)I"⟩, prog_10_method_29_code, 5, (some .int), [], [1349, 90, 1347, 1348])
def mi_85 : mg_I := (⟨"CustomsDeskModel", "meets", "(III)Z"⟩, prog_10_method_30_code, 4, (some .boolean), [], [1378, 90, 1377, 54])
def mi_86 : mg_I := (⟨"CustomsDeskModel", "isFor", "(III)Z"⟩, prog_10_method_31_code, 5, (some .boolean), [], [1370, 90, 1369, 52])
def mi_87 : mg_I := (⟨"CustomsDeskModel", "isSuspended", "(II)Z"⟩, prog_10_method_32_code, 6, (some .boolean), [], [1382, 90, 1381, 55])
def mi_88 : mg_I := (⟨"CustomsDeskModel", "preferred", "(IIII)I"⟩, prog_10_method_33_code, 8, (some .int), [], [1366, 90, 1365, 51])
def mi_89 : mg_I := (⟨"CustomsDeskModel", "goodsRate", "(IIIII)I"⟩, prog_10_method_34_code, 8, (some .int), [], [1362, 90, 1361, 50])
def mi_90 : mg_I := (⟨"CustomsDeskModel", "goodsFrom", "(IIIII)I"⟩, prog_10_method_35_code, 7, (some .int), [], [1390, 90, 1389, 56])
def mi_91 : mg_I := (⟨"CustomsDeskModel", "wrongGoods", "(IIII)I"⟩, prog_10_method_36_code, 5, (some .int), [], [1358, 90, 1357, 49])
def mi_92 : mg_I := (⟨"CustomsDeskModel", "rateOf", "(IIII)I"⟩, prog_10_method_37_code, 6, (some .int), [], [1354, 90, 1352, 1353])
def mi_93 : mg_I := (⟨"CustomsDeskModel", "comesFrom", "(IIII)I"⟩, prog_10_method_38_code, 6, (some .int), [], [1386, 90, 1384, 1385])
def mi_94 : mg_I := (⟨"CustomsDeskModel", "missed", "(IIII)I"⟩, prog_10_method_39_code, 10, (some .int), [], [1394, 90, 1392, 1393])
def mi_95 : mg_I := (⟨"CustomsDeskModel", "part", "(II)I"⟩, prog_10_method_40_code, 3, (some .int), [], [1398, 90, 1396, 1397])
def mi_96 : mg_I := (⟨"CustomsDeskModel", "forget", "()I"⟩, prog_10_method_41_code, 2, (some .int), [], [1402, 90, 1400, 1401])
def mi_97 : mg_I := (⟨"CustomsDeskModel", "partsValue", "()I"⟩, prog_10_method_42_code, 3, (some .int), [], [1414, 90, 1413, 58])
def mi_98 : mg_I := (⟨"CustomsDeskModel", "partsOrigin", "()I"⟩, prog_10_method_43_code, 6, (some .int), [], [1410, 90, 1409, 57])
def mi_99 : mg_I := (⟨"CustomsDeskModel", "origin", "()I"⟩, prog_10_method_44_code, 1, (some .int), [], [1406, 90, 1404, 1405])
def mi_100 : mg_I := (⟨"CustomsDeskModel", "declare", "(IIII)I"⟩, prog_10_method_45_code, 7, (some .int), [], [1418, 90, 1416, 1417])
def mi_101 : mg_I := (⟨"CustomsDeskModel", "isDecl", "(I)Z"⟩, prog_10_method_46_code, 2, (some .boolean), [], [1426, 90, 1425, 59])
def mi_102 : mg_I := (⟨"CustomsDeskModel", "declaration", "(II)I"⟩, prog_10_method_47_code, 3, (some .int), [], [1422, 90, 1420, 1421])
def mi_103 : mg_I := (⟨"CustomsDeskModel", "rateNow", "(I)I"⟩, prog_10_method_48_code, 2, (some .int), [], [1442, 90, 1441, 62])
def mi_104 : mg_I := (⟨"CustomsDeskModel", "fromNow", "(I)I"⟩, prog_10_method_49_code, 2, (some .int), [], [1474, 90, 1473, 68])
def mi_105 : mg_I := (⟨"CustomsDeskModel", "claims", "(II)I"⟩, prog_10_method_50_code, 4, (some .int), [], [1438, 90, 1437, 61])
def mi_106 : mg_I := (⟨"CustomsDeskModel", "claim", "(I)I"⟩, prog_10_method_51_code, 3, (some .int), [], [1434, 90, 1432, 1433])
def mi_107 : mg_I := (⟨"CustomsDeskModel", "isGood", "(II)Z"⟩, prog_10_method_52_code, 3, (some .boolean), [], [1454, 90, 1453, 64])
def mi_108 : mg_I := (⟨"CustomsDeskModel", "serves", "(I)I"⟩, prog_10_method_53_code, 6, (some .int), [], [1450, 90, 1449, 63])
def mi_109 : mg_I := (⟨"CustomsDeskModel", "leftThen", "(I)I"⟩, prog_10_method_54_code, 2, (some .int), [], [1446, 90, 1444, 1445])
def mi_110 : mg_I := (⟨"CustomsDeskModel", "inQuota", "(I)I"⟩, prog_10_method_55_code, 2, (some .int), [], [1470, 90, 1469, 67])
def mi_111 : mg_I := (⟨"CustomsDeskModel", "settles", "(I)V"⟩, prog_10_method_56_code, 5, none, [], [1466, 90, 1465, 66])
def mi_112 : mg_I := (⟨"CustomsDeskModel", "ends", "()I"⟩, prog_10_method_57_code, 5, (some .int), [], [1462, 90, 1461, 65])
def mi_113 : mg_I := (⟨"CustomsDeskModel", "pass", "(I)I"⟩, prog_10_method_58_code, 3, (some .int), [], [1458, 90, 1456, 1457])
def mi_114 : mg_I := (⟨"CustomsDeskModel", "hinders", "(I)I"⟩, prog_10_method_59_code, 2, (some .int), [], [1482, 90, 1481, 69])
def mi_115 : mg_I := (⟨"CustomsDeskModel", "givesBack", "(II)I"⟩, prog_10_method_60_code, 3, (some .int), [], [1486, 90, 1485, 70])
def mi_116 : mg_I := (⟨"CustomsDeskModel", "refund", "(I)I"⟩, prog_10_method_61_code, 6, (some .int), [], [1478, 90, 1476, 1477])
def mi_117 : mg_I := (⟨"CustomsDeskModel", "prove", "(II)I"⟩, prog_10_method_62_code, 8, (some .int), [], [1490, 90, 1488, 1489])
def mi_118 : mg_I := (⟨"CustomsDeskModel", "refusal", "()I"⟩, prog_10_method_63_code, 1, (some .int), [], [1494, 90, 1492, 1493])
def mi_119 : mg_I := (⟨"CustomsDeskModel", "inState", "(I)I"⟩, prog_10_method_64_code, 4, (some .int), [], [1502, 90, 1501, 71])
def mi_120 : mg_I := (⟨"CustomsDeskModel", "account", "(I)I"⟩, prog_10_method_65_code, 2, (some .int), [], [1498, 90, 1496, 1497])
def mi_121 : mg_I := (⟨"CustomsDeskModel", "keptOf", "(I)I"⟩, prog_10_method_66_code, 2, (some .int), [], [1514, 90, 1513, 72])
def mi_122 : mg_I := (⟨"CustomsDeskModel", "kept", "(I)I"⟩, prog_10_method_67_code, 2, (some .int), [], [1506, 90, 1504, 1505])
def mi_123 : mg_I := (⟨"CustomsDeskModel", "keptAgain", "(I)I"⟩, prog_10_method_68_code, 4, (some .int), [], [1510, 90, 1508, 1509])
def mi_124 : mg_I := (⟨"CustomsDeskModel", "keptUnder", "(I)I"⟩, prog_10_method_69_code, 4, (some .int), [], [1518, 90, 1516, 1517])
def mi_125 : mg_I := (⟨"CustomsDeskModel", "givenBack", "()D"⟩, prog_10_method_70_code, 1, (some .double), [], [1522, 90, 1520, 1521])
def mi_126 : mg_I := (⟨"CustomsDeskModel", "meanRate", "()F"⟩, prog_10_method_71_code, 3, (some .float), [], [1526, 90, 1524, 1525])
def mi_127 : mg_I := (⟨"CustomsDeskModel", "append", "(C)I"⟩, prog_10_method_72_code, 2, (some .int), [], [1530, 90, 1528, 1529])
def mi_128 : mg_I := (⟨"CustomsDeskModel", "here", "()I"⟩, prog_10_method_73_code, 1, (some .int), [], [1550, 90, 1549, 76])
def mi_129 : mg_I := (⟨"CustomsDeskModel", "reads", "(C)V"⟩, prog_10_method_74_code, 2, none, [], [1554, 90, 1553, 77])
def mi_130 : mg_I := (⟨"CustomsDeskModel", "readsDigit", "(CC)I"⟩, prog_10_method_75_code, 4, (some .int), [], [1546, 90, 1545, 75])
def mi_131 : mg_I := (⟨"CustomsDeskModel", "readsCode", "()I"⟩, prog_10_method_76_code, 3, (some .int), [], [1542, 90, 1541, 74])
def mi_132 : mg_I := (⟨"CustomsDeskModel", "readsNumber", "()I"⟩, prog_10_method_77_code, 3, (some .int), [], [1558, 90, 1557, 78])
def mi_133 : mg_I := (⟨"CustomsDeskModel", "readsEntry", "(I)V"⟩, prog_10_method_78_code, 4, none, [], [1538, 90, 1537, 73])
def mi_134 : mg_I := (⟨"CustomsDeskModel", "lodgesEntry", "(I)Z"⟩, prog_10_method_79_code, 5, (some .boolean), [], [1562, 90, 1561, 79])
def mi_135 : mg_I := (⟨"CustomsDeskModel", "lodge", "()I"⟩, prog_10_method_80_code, 5, (some .int), [], [1534, 90, 1532, 1533])
def mi_136 : mg_I := (⟨"CustomsDeskModel", "errorPosition", "()I"⟩, prog_10_method_81_code, 1, (some .int), [], [1568, 90, 1566, 1567])
def mi_137 : mg_I := (⟨"CustomsDeskModel", "changes", "()I"⟩, prog_10_method_82_code, 1, (some .int), [], [1572, 90, 1570, 1571])
def mi_138 : mg_I := (⟨"CustomsDeskModel", "undo", "()I"⟩, prog_10_method_83_code, 1, (some .int), [], [1576, 90, 1574, 1575])
def mi_139 : mg_I := (⟨"CustomsDeskModel", "save", "()I"⟩, prog_10_method_84_code, 1, (some .int), [], [1580, 90, 1578, 1579])
def mi_140 : mg_I := (⟨"CustomsDeskModel", "restore", "()I"⟩, prog_10_method_85_code, 1, (some .int), [], [1584, 90, 1582, 1583])
def mi_141 : mg_I := (⟨"CustomsDesk$Goods", "<init>", "()V"⟩, prog_2_method_1_code, 1, none, [], [190, 87, 189, 0])
def mi_142 : mg_I := (⟨"CustomsDesk$Goods", "fill", "(IIIII)V"⟩, prog_2_method_2_code, 6, none, [], [695, 87, 693, 694])
def mi_143 : mg_I := (⟨"CustomsDesk$Ledger", "<init>", "()V"⟩, prog_3_method_1_code, 1, none, [], [171, 86, 170, 0])
def mi_144 : mg_I := (⟨"CustomsDesk$Ledger", "day", "()I"⟩, prog_3_method_2_code, 1, (some .int), [], [647, 86, 645, 646])
def mi_145 : mg_I := (⟨"CustomsDesk$Ledger", "found", "()I"⟩, prog_3_method_3_code, 1, (some .int), [], [992, 86, 990, 991])
def mi_146 : mg_I := (⟨"CustomsDesk$Ledger", "allGivenBack", "()I"⟩, prog_3_method_4_code, 1, (some .int), [], [996, 86, 994, 995])
def mi_147 : mg_I := (⟨"CustomsDesk$Ledger", "addDuty", "(II)V"⟩, prog_3_method_5_code, 3, none, [], [904, 86, 902, 903])
def mi_148 : mg_I := (⟨"CustomsDesk$Ledger", "giveBack", "(II)V"⟩, prog_3_method_6_code, 3, none, [], [953, 86, 951, 952])
def mi_149 : mg_I := (⟨"CustomsDesk$Ledger", "keepIn", "(I)V"⟩, prog_3_method_7_code, 2, none, [], [343, 86, 341, 342])
def mi_150 : mg_I := (⟨"CustomsDesk$Ledger", "bringFrom", "(I)V"⟩, prog_3_method_8_code, 2, none, [], [1182, 86, 1180, 1181])
def mi_151 : mg_I := (⟨"CustomsDesk$Office", "<init>", "()V"⟩, prog_4_method_1_code, 1, none, [], [115, 82, 114, 0])
def mi_152 : mg_I := (⟨"CustomsDesk$Office", "enter", "(IIIILCustomsDesk$Parts;)I"⟩, prog_4_method_2_code, 7, (some .int), [], [792, 82, 790, 791])
def mi_153 : mg_I := (⟨"CustomsDesk$Office", "hasStatus", "(II)Z"⟩, prog_4_method_3_code, 3, (some .boolean), [], [822, 82, 820, 821])
def mi_154 : mg_I := (⟨"CustomsDesk$Office", "countWith", "(I)I"⟩, prog_4_method_4_code, 4, (some .int), [], [988, 82, 986, 987])
def mi_155 : mg_I := (⟨"CustomsDesk$Office", "claimReason", "(I)I"⟩, prog_4_method_5_code, 4, (some .int), [], [828, 82, 826, 827])
def mi_156 : mg_I := (⟨"CustomsDesk$Office", "goodQuantity", "(I)I"⟩, prog_4_method_6_code, 4, (some .int), [], [847, 82, 845, 846])
def mi_157 : mg_I := (⟨"CustomsDesk$Office", "serve", "(II)V"⟩, prog_4_method_7_code, 7, none, [], [867, 82, 865, 866])
def mi_158 : mg_I := (⟨"CustomsDesk$Office", "assessLodged", "()I"⟩, prog_4_method_8_code, 3, (some .int), [], [887, 82, 885, 886])
def mi_159 : mg_I := (⟨"CustomsDesk$Office", "refusalReason", "(I)I"⟩, prog_4_method_9_code, 3, (some .int), [], [921, 82, 919, 920])
def mi_160 : mg_I := (⟨"CustomsDesk$Office", "giveAllBack", "(I)I"⟩, prog_4_method_10_code, 3, (some .int), [], [941, 82, 939, 940])
def mi_161 : mg_I := (⟨"CustomsDesk$Office", "takeProof", "(II)I"⟩, prog_4_method_11_code, 6, (some .int), [], [969, 82, 967, 968])
def mi_162 : mg_I := (⟨"CustomsDesk$Office", "keptOf", "(I)I"⟩, prog_4_method_12_code, 2, (some .int), [], [945, 82, 943, 944])
def mi_163 : mg_I := (⟨"CustomsDesk$Office", "assessedValue", "()I"⟩, prog_4_method_13_code, 3, (some .int), [], [1055, 82, 1053, 1054])
def mi_164 : mg_I := (⟨"CustomsDesk$Office", "keepIn", "(I)V"⟩, prog_4_method_14_code, 2, none, [], [324, 82, 322, 323])
def mi_165 : mg_I := (⟨"CustomsDesk$Office", "bringFrom", "(I)V"⟩, prog_4_method_15_code, 2, none, [], [1170, 82, 1168, 1169])
def mi_166 : mg_I := (⟨"CustomsDesk$Office", "loadGoods", "(I)V"⟩, prog_4_method_16_code, 2, none, [], [832, 82, 831, 13])
def mi_167 : mg_I := (⟨"CustomsDesk$Office", "isClaimOn", "(II)Z"⟩, prog_4_method_17_code, 3, (some .boolean), [], [852, 82, 851, 14])
def mi_168 : mg_I := (⟨"CustomsDesk$Office", "isGoodClaimOn", "(II)Z"⟩, prog_4_method_18_code, 3, (some .boolean), [], [872, 82, 871, 15])
def mi_169 : mg_I := (⟨"CustomsDesk$Office", "giveSpareUnits", "(II)V"⟩, prog_4_method_19_code, 5, none, [], [879, 82, 878, 16])
def mi_170 : mg_I := (⟨"CustomsDesk$Office", "assess", "(I)V"⟩, prog_4_method_20_code, 6, none, [], [891, 82, 890, 17])
def mi_171 : mg_I := (⟨"CustomsDesk$Office", "valueInQuota", "(I)I"⟩, prog_4_method_21_code, 2, (some .int), [], [895, 82, 894, 18])
def mi_172 : mg_I := (⟨"CustomsDesk$Office", "secondPart", "(II)I"⟩, prog_4_method_22_code, 3, (some .int), [], [899, 82, 898, 19])
def mi_173 : mg_I := (⟨"CustomsDesk$Office", "giveBack", "(II)V"⟩, prog_4_method_23_code, 3, none, [], [949, 82, 948, 21])
def mi_174 : mg_I := (⟨"CustomsDesk$Office", "returnUnits", "(I)V"⟩, prog_4_method_24_code, 5, none, [], [957, 82, 956, 22])
def mi_175 : mg_I := (⟨"CustomsDesk$Parts", "<init>", "(I)V"⟩, prog_5_method_1_code, 2, none, [], [241, 88, 240, 0])
def mi_176 : mg_I := (⟨"CustomsDesk$Parts", "addPart", "(II)V"⟩, prog_5_method_2_code, 4, none, [], [755, 88, 753, 754])
def mi_177 : mg_I := (⟨"CustomsDesk$Parts", "wholeValue", "()I"⟩, prog_5_method_3_code, 3, (some .int), [], [773, 88, 771, 772])
def mi_178 : mg_I := (⟨"CustomsDesk$Parts", "amountOf", "(I)I"⟩, prog_5_method_4_code, 4, (some .int), [], [779, 88, 777, 778])
def mi_179 : mg_I := (⟨"CustomsDesk$Parts", "originBy", "(I)I"⟩, prog_5_method_5_code, 7, (some .int), [], [769, 88, 767, 768])
def mi_180 : mg_I := (⟨"CustomsDesk$Table", "<init>", "(III)V"⟩, prog_6_method_1_code, 4, none, [], [127, 84, 126, 0])
def mi_181 : mg_I := (⟨"CustomsDesk$Table", "count", "()I"⟩, prog_6_method_2_code, 1, (some .int), [], [353, 84, 351, 352])
def mi_182 : mg_I := (⟨"CustomsDesk$Table", "has", "(I)Z"⟩, prog_6_method_3_code, 2, (some .boolean), [], [462, 84, 460, 461])
def mi_183 : mg_I := (⟨"CustomsDesk$Table", "isFull", "()Z"⟩, prog_6_method_4_code, 1, (some .boolean), [], [508, 84, 506, 507])
def mi_184 : mg_I := (⟨"CustomsDesk$Table", "get", "(II)I"⟩, prog_6_method_5_code, 4, (some .int), [], [488, 84, 486, 487])
def mi_185 : mg_I := (⟨"CustomsDesk$Table", "put", "(III)V"⟩, prog_6_method_6_code, 5, none, [], [149, 84, 147, 148])
def mi_186 : mg_I := (⟨"CustomsDesk$Table", "increase", "(III)V"⟩, prog_6_method_7_code, 4, none, [], [883, 84, 881, 882])
def mi_187 : mg_I := (⟨"CustomsDesk$Table", "add", "()I"⟩, prog_6_method_8_code, 3, (some .int), [], [532, 84, 530, 531])
def mi_188 : mg_I := (⟨"CustomsDesk$Table", "remove", "(I)V"⟩, prog_6_method_9_code, 5, none, [], [626, 84, 624, 625])
def mi_189 : mg_I := (⟨"CustomsDesk$Table", "clear", "()V"⟩, prog_6_method_10_code, 1, none, [], [357, 84, 355, 356])
def mi_190 : mg_I := (⟨"CustomsDesk$Table", "keepIn", "(I)V"⟩, prog_6_method_11_code, 2, none, [], [332, 84, 330, 331])
def mi_191 : mg_I := (⟨"CustomsDesk$Table", "bringFrom", "(I)V"⟩, prog_6_method_12_code, 2, none, [], [1178, 84, 1176, 1177])
def mi_192 : mg_I := (⟨"CustomsDesk$Table", "hasSlot", "(I)Z"⟩, prog_6_method_13_code, 2, (some .boolean), [], [336, 84, 335, 2])
def mi_193 : mg_I := (⟨"CustomsDesk$Table", "setCount", "(I)V"⟩, prog_6_method_14_code, 2, none, [], [361, 84, 360, 3])
def mi_194 : mg_I := (⟨"CustomsDesk$Tariff", "<init>", "()V"⟩, prog_7_method_1_code, 1, none, [], [121, 83, 120, 0])
def mi_195 : mg_I := (⟨"CustomsDesk$Tariff", "setting", "(I)I"⟩, prog_7_method_2_code, 2, (some .int), [], [679, 83, 677, 678])
def mi_196 : mg_I := (⟨"CustomsDesk$Tariff", "isTaken", "(II)Z"⟩, prog_7_method_3_code, 4, (some .boolean), [], [483, 83, 481, 482])
def mi_197 : mg_I := (⟨"CustomsDesk$Tariff", "levelOf", "(I)I"⟩, prog_7_method_4_code, 4, (some .int), [], [512, 83, 510, 511])
def mi_198 : mg_I := (⟨"CustomsDesk$Tariff", "codeOf", "(I)I"⟩, prog_7_method_5_code, 6, (some .int), [], [567, 83, 565, 566])
def mi_199 : mg_I := (⟨"CustomsDesk$Tariff", "headingWithCode", "(I)I"⟩, prog_7_method_6_code, 3, (some .int), [], [580, 83, 578, 579])
def mi_200 : mg_I := (⟨"CustomsDesk$Tariff", "childrenOf", "(I)I"⟩, prog_7_method_7_code, 4, (some .int), [], [563, 83, 561, 562])
def mi_201 : mg_I := (⟨"CustomsDesk$Tariff", "isUnder", "(II)Z"⟩, prog_7_method_8_code, 5, (some .boolean), [], [708, 83, 706, 707])
def mi_202 : mg_I := (⟨"CustomsDesk$Tariff", "rateOfHeading", "(I)I"⟩, prog_7_method_9_code, 5, (some .int), [], [559, 83, 557, 558])
def mi_203 : mg_I := (⟨"CustomsDesk$Tariff", "leastRate", "(LCustomsDesk$Goods;)I"⟩, prog_7_method_10_code, 2, (some .int), [], [699, 83, 697, 698])
def mi_204 : mg_I := (⟨"CustomsDesk$Tariff", "sourceOf", "(ILCustomsDesk$Goods;)I"⟩, prog_7_method_11_code, 3, (some .int), [], [729, 83, 727, 728])
def mi_205 : mg_I := (⟨"CustomsDesk$Tariff", "bestMissed", "(LCustomsDesk$Goods;)I"⟩, prog_7_method_12_code, 6, (some .int), [], [740, 83, 738, 739])
def mi_206 : mg_I := (⟨"CustomsDesk$Tariff", "keepIn", "(I)V"⟩, prog_7_method_13_code, 2, none, [], [328, 83, 326, 327])
def mi_207 : mg_I := (⟨"CustomsDesk$Tariff", "bringFrom", "(I)V"⟩, prog_7_method_14_code, 2, none, [], [1174, 83, 1172, 1173])
def mi_208 : mg_I := (⟨"CustomsDesk$Tariff", "isSuspended", "(LCustomsDesk$Goods;)Z"⟩, prog_7_method_15_code, 3, (some .boolean), [], [703, 83, 702, 9])
def mi_209 : mg_I := (⟨"CustomsDesk$Tariff", "preferredRate", "(LCustomsDesk$Goods;)I"⟩, prog_7_method_16_code, 4, (some .int), [], [713, 83, 712, 10])
def mi_210 : mg_I := (⟨"CustomsDesk$Tariff", "meetsNeed", "(ILCustomsDesk$Goods;)Z"⟩, prog_7_method_17_code, 4, (some .boolean), [], [717, 83, 716, 11])
def mi_211 : mg_I := (⟨"CustomsDesk$Text", "<init>", "()V"⟩, prog_8_method_1_code, 1, none, [], [254, 89, 253, 0])
def mi_212 : mg_I := (⟨"CustomsDesk$Text", "addCharacter", "(C)I"⟩, prog_8_method_2_code, 2, (some .int), [], [1069, 89, 1067, 1068])
def mi_213 : mg_I := (⟨"CustomsDesk$Text", "readAll", "()Z"⟩, prog_8_method_3_code, 3, (some .boolean), [], [1080, 89, 1078, 1079])
def mi_214 : mg_I := (⟨"CustomsDesk$Text", "partNumber", "(III)I"⟩, prog_8_method_4_code, 4, (some .int), [], [1140, 89, 1138, 1139])
def mi_215 : mg_I := (⟨"CustomsDesk$Text", "readEntry", "()Z"⟩, prog_8_method_5_code, 2, (some .boolean), [], [1085, 89, 1084, 23])
def mi_216 : mg_I := (⟨"CustomsDesk$Text", "readParts", "(I)Z"⟩, prog_8_method_6_code, 3, (some .boolean), [], [1107, 89, 1106, 28])
def mi_217 : mg_I := (⟨"CustomsDesk$Text", "readChoice", "(ICI)Z"⟩, prog_8_method_7_code, 4, (some .boolean), [], [1118, 89, 1117, 30])
def mi_218 : mg_I := (⟨"CustomsDesk$Text", "readNumber", "(IIII)Z"⟩, prog_8_method_8_code, 8, (some .boolean), [], [1091, 89, 1090, 24])
def mi_219 : mg_I := (⟨"CustomsDesk$Text", "readDigit", "(II)Z"⟩, prog_8_method_9_code, 4, (some .boolean), [], [1114, 89, 1113, 29])
def mi_220 : mg_I := (⟨"CustomsDesk$Text", "take", "(C)Z"⟩, prog_8_method_10_code, 2, (some .boolean), [], [1103, 89, 1102, 27])
def mi_221 : mg_I := (⟨"CustomsDesk$Text", "digitHere", "()I"⟩, prog_8_method_11_code, 1, (some .int), [], [1095, 89, 1094, 25])
def mi_222 : mg_I := (⟨"CustomsDesk$Text", "isInText", "()Z"⟩, prog_8_method_12_code, 1, (some .boolean), [], [1099, 89, 1098, 26])
def mi_223 : mg_I := (⟨"CustomsDesk$Text", "partColumn", "(II)I"⟩, prog_8_method_13_code, 2, (some .int), [], [1110, 89, 1109, 0])
def mi_224 : mg_I := (⟨"CustomsDeskLaw", "heading", "(LCustomsDesk;II[J)I"⟩, method_3_code, 5, (some .int), [(0, 10, 13, 13), (0, 10, 17, 15), (0, 10, 21, 17)], [372, 80, 371, 0])
def mi_225 : mg_I := (⟨"CustomsDeskLaw", "rate", "(LCustomsDesk;II[J)I"⟩, method_4_code, 5, (some .int), [(0, 10, 13, 13), (0, 10, 17, 15)], [537, 80, 536, 0])
def mi_226 : mg_I := (⟨"CustomsDeskLaw", "told", "(LCustomsDesk;II[J)I"⟩, method_5_code, 5, (some .int), [(0, 10, 13, 13), (0, 10, 17, 15)], [551, 80, 550, 0])
def mi_227 : mg_I := (⟨"CustomsDeskLaw", "find", "(LCustomsDesk;I[J)I"⟩, method_6_code, 4, (some .int), [(0, 9, 12, 29)], [571, 80, 570, 0])
def mi_228 : mg_I := (⟨"CustomsDeskLaw", "prefer", "(LCustomsDesk;IIII[J)I"⟩, method_7_code, 7, (some .int), [(0, 14, 17, 13), (0, 14, 21, 15), (0, 14, 25, 17)], [600, 80, 599, 0])
def mi_229 : mg_I := (⟨"CustomsDeskLaw", "drop", "(LCustomsDesk;I[J)I"⟩, method_8_code, 4, (some .int), [(0, 9, 12, 13)], [617, 80, 616, 0])
def mi_230 : mg_I := (⟨"CustomsDeskLaw", "suspend", "(LCustomsDesk;III[J)I"⟩, method_9_code, 6, (some .int), [(0, 12, 15, 13), (0, 12, 19, 15), (0, 12, 23, 17)], [630, 80, 629, 0])
def mi_231 : mg_I := (⟨"CustomsDeskLaw", "quota", "(LCustomsDesk;IIIII[J)I"⟩, method_10_code, 8, (some .int), [(0, 16, 19, 13), (0, 16, 23, 15), (0, 16, 27, 17)], [639, 80, 638, 0])
def mi_232 : mg_I := (⟨"CustomsDeskLaw", "quotaTold", "(LCustomsDesk;II[J)I"⟩, method_11_code, 5, (some .int), [(0, 10, 13, 13), (0, 10, 17, 15)], [653, 80, 652, 0])
def mi_233 : mg_I := (⟨"CustomsDeskLaw", "set", "(LCustomsDesk;II[J)I"⟩, method_12_code, 5, (some .int), [(0, 10, 13, 15)], [666, 80, 665, 0])
def mi_234 : mg_I := (⟨"CustomsDeskLaw", "rateOf", "(LCustomsDesk;IIII[J)I"⟩, method_13_code, 7, (some .int), [(0, 14, 17, 13), (0, 14, 21, 15)], [682, 80, 681, 0])
def mi_235 : mg_I := (⟨"CustomsDeskLaw", "comesFrom", "(LCustomsDesk;IIII[J)I"⟩, method_14_code, 7, (some .int), [(0, 14, 17, 13), (0, 14, 21, 15)], [721, 80, 720, 0])
def mi_236 : mg_I := (⟨"CustomsDeskLaw", "missed", "(LCustomsDesk;IIII[J)I"⟩, method_15_code, 7, (some .int), [(0, 14, 17, 13), (0, 14, 21, 15), (0, 14, 25, 29)], [732, 80, 731, 0])
def mi_237 : mg_I := (⟨"CustomsDeskLaw", "part", "(LCustomsDesk;II[J)I"⟩, method_16_code, 5, (some .int), [(0, 10, 13, 13), (0, 10, 17, 15), (0, 10, 21, 17)], [745, 80, 744, 0])
def mi_238 : mg_I := (⟨"CustomsDeskLaw", "origin", "(LCustomsDesk;[J)I"⟩, method_17_code, 3, (some .int), [(0, 8, 11, 29)], [760, 80, 759, 0])
def mi_239 : mg_I := (⟨"CustomsDeskLaw", "declare", "(LCustomsDesk;IIII[J)I"⟩, method_18_code, 7, (some .int), [(0, 14, 17, 13), (0, 14, 21, 15), (0, 14, 25, 17)], [782, 80, 781, 0])
def mi_240 : mg_I := (⟨"CustomsDeskLaw", "declaration", "(LCustomsDesk;II[J)I"⟩, method_19_code, 5, (some .int), [(0, 10, 13, 13), (0, 10, 17, 15)], [801, 80, 800, 0])
def mi_241 : mg_I := (⟨"CustomsDeskLaw", "claim", "(LCustomsDesk;I[J)I"⟩, method_20_code, 4, (some .int), [(0, 9, 12, 13), (0, 9, 15, 17)], [814, 80, 813, 0])
def mi_242 : mg_I := (⟨"CustomsDeskLaw", "leftThen", "(LCustomsDesk;I[J)I"⟩, method_21_code, 4, (some .int), [(0, 9, 12, 13)], [839, 80, 838, 0])
def mi_243 : mg_I := (⟨"CustomsDeskLaw", "pass", "(LCustomsDesk;I[J)I"⟩, method_22_code, 4, (some .int), [(0, 9, 12, 15), (0, 9, 15, 17)], [857, 80, 856, 0])
def mi_244 : mg_I := (⟨"CustomsDeskLaw", "refund", "(LCustomsDesk;I[J)I"⟩, method_23_code, 4, (some .int), [(0, 9, 12, 13), (0, 9, 15, 86)], [908, 80, 907, 0])
def mi_245 : mg_I := (⟨"CustomsDeskLaw", "prove", "(LCustomsDesk;II[J)I"⟩, method_24_code, 5, (some .int), [(0, 10, 13, 13), (0, 10, 17, 15), (0, 10, 21, 86)], [960, 80, 959, 0])
def mi_246 : mg_I := (⟨"CustomsDeskLaw", "refusal", "(LCustomsDesk;[J)I"⟩, method_25_code, 3, (some .int), [(0, 8, 11, 29)], [972, 80, 971, 0])
def mi_247 : mg_I := (⟨"CustomsDeskLaw", "account", "(LCustomsDesk;I[J)I"⟩, method_26_code, 4, (some .int), [(0, 9, 12, 15)], [980, 80, 979, 0])
def mi_248 : mg_I := (⟨"CustomsDeskLaw", "kept", "(LCustomsDesk;I[J)I"⟩, method_27_code, 4, (some .int), [(0, 9, 12, 13)], [1000, 80, 999, 0])
def mi_249 : mg_I := (⟨"CustomsDeskLaw", "keptAgain", "(LCustomsDesk;I[J)I"⟩, method_28_code, 4, (some .int), [(0, 9, 12, 13)], [1007, 80, 1006, 0])
def mi_250 : mg_I := (⟨"CustomsDeskLaw", "keptUnder", "(LCustomsDesk;I[J)I"⟩, method_29_code, 4, (some .int), [(0, 9, 12, 13)], [1015, 80, 1014, 0])
def mi_251 : mg_I := (⟨"CustomsDeskLaw", "givenBack", "(LCustomsDesk;[D)I"⟩, method_30_code, 3, (some .int), [(0, 7, 10, 110)], [1023, 80, 1022, 0])
def mi_252 : mg_I := (⟨"CustomsDeskLaw", "meanRate", "(LCustomsDesk;[D)I"⟩, method_31_code, 3, (some .int), [(0, 8, 11, 110)], [1047, 80, 1046, 0])
def mi_253 : mg_I := (⟨"CustomsDeskLaw", "append", "(LCustomsDesk;C[J)I"⟩, method_32_code, 4, (some .int), [(0, 9, 12, 15), (0, 9, 15, 17)], [1059, 80, 1058, 0])
def mi_254 : mg_I := (⟨"CustomsDeskLaw", "lodge", "(LCustomsDesk;[J)I"⟩, method_33_code, 3, (some .int), [(0, 8, 11, 15), (0, 8, 14, 29), (0, 8, 17, 17)], [1072, 80, 1071, 0])
def mi_255 : mg_I := (⟨"CustomsDeskLaw", "errorPosition", "(LCustomsDesk;[J)I"⟩, method_34_code, 3, (some .int), [(0, 8, 11, 29)], [1149, 80, 1148, 0])
def mi_256 : mg_I := (⟨"CustomsDeskLaw", "undo", "(LCustomsDesk;[J)I"⟩, method_35_code, 3, (some .int), [(0, 8, 11, 17)], [1157, 80, 1156, 0])
def mi_257 : mg_I := (⟨"CustomsDeskLaw", "restore", "(LCustomsDesk;[J)I"⟩, method_36_code, 3, (some .int), [(0, 8, 11, 17)], [1188, 80, 1187, 0])
def mi_258 : mg_I := (⟨"CustomsDeskLaw", "law", "([I)Z"⟩, code, 9, (some .boolean), [], [0, 80, 0, 0])
def mg_infos : List mg_I := [mi_0, mi_1, mi_2, mi_3, mi_4, mi_5, mi_6, mi_7, mi_8, mi_9, mi_10, mi_11, mi_12, mi_13, mi_14, mi_15, mi_16, mi_17, mi_18, mi_19, mi_20, mi_21, mi_22, mi_23, mi_24, mi_25, mi_26, mi_27, mi_28, mi_29, mi_30, mi_31, mi_32, mi_33, mi_34, mi_35, mi_36, mi_37, mi_38, mi_39, mi_40, mi_41, mi_42, mi_43, mi_44, mi_45, mi_46, mi_47, mi_48, mi_49, mi_50, mi_51, mi_52, mi_53, mi_54, mi_55, mi_56, mi_57, mi_58, mi_59, mi_60, mi_61, mi_62, mi_63, mi_64, mi_65, mi_66, mi_67, mi_68, mi_69, mi_70, mi_71, mi_72, mi_73, mi_74, mi_75, mi_76, mi_77, mi_78, mi_79, mi_80, mi_81, mi_82, mi_83, mi_84, mi_85, mi_86, mi_87, mi_88, mi_89, mi_90, mi_91, mi_92, mi_93, mi_94, mi_95, mi_96, mi_97, mi_98, mi_99, mi_100, mi_101, mi_102, mi_103, mi_104, mi_105, mi_106, mi_107, mi_108, mi_109, mi_110, mi_111, mi_112, mi_113, mi_114, mi_115, mi_116, mi_117, mi_118, mi_119, mi_120, mi_121, mi_122, mi_123, mi_124, mi_125, mi_126, mi_127, mi_128, mi_129, mi_130, mi_131, mi_132, mi_133, mi_134, mi_135, mi_136, mi_137, mi_138, mi_139, mi_140, mi_141, mi_142, mi_143, mi_144, mi_145, mi_146, mi_147, mi_148, mi_149, mi_150, mi_151, mi_152, mi_153, mi_154, mi_155, mi_156, mi_157, mi_158, mi_159, mi_160, mi_161, mi_162, mi_163, mi_164, mi_165, mi_166, mi_167, mi_168, mi_169, mi_170, mi_171, mi_172, mi_173, mi_174, mi_175, mi_176, mi_177, mi_178, mi_179, mi_180, mi_181, mi_182, mi_183, mi_184, mi_185, mi_186, mi_187, mi_188, mi_189, mi_190, mi_191, mi_192, mi_193, mi_194, mi_195, mi_196, mi_197, mi_198, mi_199, mi_200, mi_201, mi_202, mi_203, mi_204, mi_205, mi_206, mi_207, mi_208, mi_209, mi_210, mi_211, mi_212, mi_213, mi_214, mi_215, mi_216, mi_217, mi_218, mi_219, mi_220, mi_221, mi_222, mi_223, mi_224, mi_225, mi_226, mi_227, mi_228, mi_229, mi_230, mi_231, mi_232, mi_233, mi_234, mi_235, mi_236, mi_237, mi_238, mi_239, mi_240, mi_241, mi_242, mi_243, mi_244, mi_245, mi_246, mi_247, mi_248, mi_249, mi_250, mi_251, mi_252, mi_253, mi_254, mi_255, mi_256, mi_257, mi_258]
def mg_clss : List Nat := [7, 7, 7, 7, 7, 7, 7, 7, 7, 7, 7, 7, 7, 7, 7, 7, 7, 7, 7, 7, 7, 7, 7, 7, 7, 7, 7, 7, 7, 7, 7, 7, 7, 7, 7, 7, 7, 7, 7, 7, 7, 7, 7, 7, 7, 7, 7, 7, 7, 7, 7, 7, 7, 7, 7, 7, 8, 8, 8, 8, 8, 8, 8, 8, 8, 8, 8, 8, 8, 8, 8, 8, 8, 8, 8, 8, 8, 8, 8, 8, 8, 8, 8, 8, 8, 8, 8, 8, 8, 8, 8, 8, 8, 8, 8, 8, 8, 8, 8, 8, 8, 8, 8, 8, 8, 8, 8, 8, 8, 8, 8, 8, 8, 8, 8, 8, 8, 8, 8, 8, 8, 8, 8, 8, 8, 8, 8, 8, 8, 8, 8, 8, 8, 8, 8, 8, 8, 8, 8, 8, 8, 0, 0, 1, 1, 1, 1, 1, 1, 1, 1, 2, 2, 2, 2, 2, 2, 2, 2, 2, 2, 2, 2, 2, 2, 2, 2, 2, 2, 2, 2, 2, 2, 2, 2, 3, 3, 3, 3, 3, 4, 4, 4, 4, 4, 4, 4, 4, 4, 4, 4, 4, 4, 4, 5, 5, 5, 5, 5, 5, 5, 5, 5, 5, 5, 5, 5, 5, 5, 5, 5, 6, 6, 6, 6, 6, 6, 6, 6, 6, 6, 6, 6, 6, 9, 9, 9, 9, 9, 9, 9, 9, 9, 9, 9, 9, 9, 9, 9, 9, 9, 9, 9, 9, 9, 9, 9, 9, 9, 9, 9, 9, 9, 9, 9, 9, 9, 9, 9]
def mg_hxs : List (List (Nat × Nat × Nat × Nat × Nat)) := [[], [], [], [], [], [], [], [], [], [], [], [], [], [], [], [], [], [], [], [], [], [], [], [], [], [], [], [], [], [], [], [], [], [], [], [], [], [], [], [], [], [], [], [], [], [], [], [], [], [], [], [], [], [], [], [], [], [], [], [], [], [], [], [], [], [], [], [], [], [], [], [], [], [], [], [], [], [], [], [], [], [], [], [], [], [], [], [], [], [], [], [], [], [], [], [], [], [], [], [], [], [], [], [], [], [], [], [], [], [], [], [], [], [], [], [], [], [], [], [], [], [], [], [], [], [], [], [], [], [], [], [], [], [], [], [], [], [], [], [], [], [], [], [], [], [], [], [], [], [], [], [], [], [], [], [], [], [], [], [], [], [], [], [], [], [], [], [], [], [], [], [], [], [], [], [], [], [], [], [], [], [], [], [], [], [], [], [], [], [], [], [], [], [], [], [], [], [], [], [], [], [], [], [], [], [], [], [], [], [], [], [], [], [], [], [], [], [], [], [], [], [], [], [], [(0, 10, 13, 0, 373), (0, 10, 17, 1, 453), (0, 10, 21, 2, 454)], [(0, 10, 13, 0, 373), (0, 10, 17, 1, 453)], [(0, 10, 13, 0, 373), (0, 10, 17, 1, 453)], [(0, 9, 12, 3, 572)], [(0, 14, 17, 0, 373), (0, 14, 21, 1, 453), (0, 14, 25, 2, 454)], [(0, 9, 12, 0, 373)], [(0, 12, 15, 0, 373), (0, 12, 19, 1, 453), (0, 12, 23, 2, 454)], [(0, 16, 19, 0, 373), (0, 16, 23, 1, 453), (0, 16, 27, 2, 454)], [(0, 10, 13, 0, 373), (0, 10, 17, 1, 453)], [(0, 10, 13, 1, 453)], [(0, 14, 17, 0, 373), (0, 14, 21, 1, 453)], [(0, 14, 17, 0, 373), (0, 14, 21, 1, 453)], [(0, 14, 17, 0, 373), (0, 14, 21, 1, 453), (0, 14, 25, 3, 572)], [(0, 10, 13, 0, 373), (0, 10, 17, 1, 453), (0, 10, 21, 2, 454)], [(0, 8, 11, 3, 572)], [(0, 14, 17, 0, 373), (0, 14, 21, 1, 453), (0, 14, 25, 2, 454)], [(0, 10, 13, 0, 373), (0, 10, 17, 1, 453)], [(0, 9, 12, 0, 373), (0, 9, 15, 2, 454)], [(0, 9, 12, 0, 373)], [(0, 9, 12, 1, 453), (0, 9, 15, 2, 454)], [(0, 9, 12, 0, 373), (0, 9, 15, 4, 909)], [(0, 10, 13, 0, 373), (0, 10, 17, 1, 453), (0, 10, 21, 4, 909)], [(0, 8, 11, 3, 572)], [(0, 9, 12, 1, 453)], [(0, 9, 12, 0, 373)], [(0, 9, 12, 0, 373)], [(0, 9, 12, 0, 373)], [(0, 7, 10, 5, 1024)], [(0, 8, 11, 5, 1024)], [(0, 9, 12, 1, 453), (0, 9, 15, 2, 454)], [(0, 8, 11, 1, 453), (0, 8, 14, 3, 572), (0, 8, 17, 2, 454)], [(0, 8, 11, 3, 572)], [(0, 8, 11, 2, 454)], [(0, 8, 11, 2, 454)], []]
def mg_nxs : List (List (Nat × Nat × Nat)) := [[], [], [], [], [], [], [], [], [], [], [], [], [], [], [], [], [], [], [], [], [], [], [], [], [], [], [], [], [], [], [], [], [], [], [], [], [], [], [], [], [], [], [], [], [], [], [], [], [], [], [], [], [], [], [], [], [], [], [], [], [], [], [], [], [], [], [], [], [], [], [], [], [], [], [], [], [], [], [], [], [], [], [], [], [], [], [], [], [], [], [], [], [], [], [], [], [], [], [], [], [], [], [], [], [], [], [], [], [], [], [], [], [], [], [], [], [], [], [], [], [], [], [], [], [], [], [], [], [], [], [], [], [], [], [], [], [], [], [], [], [], [], [], [], [], [], [], [], [], [], [], [], [], [], [], [], [], [], [], [], [], [], [], [], [], [], [], [], [], [], [], [], [], [], [], [], [], [], [], [], [], [], [], [], [], [], [], [], [], [], [], [], [], [], [], [], [], [], [], [], [], [], [], [], [], [], [], [], [], [], [], [], [], [], [], [], [], [], [], [], [], [], [], [], [(13, 4, 15), (17, 4, 19), (21, 4, 23)], [(13, 4, 15), (17, 4, 19)], [(13, 4, 15), (17, 4, 19)], [(12, 3, 13)], [(17, 6, 19), (21, 6, 23), (25, 6, 27)], [(12, 3, 13)], [(15, 5, 17), (19, 5, 21), (23, 5, 25)], [(19, 7, 21), (23, 7, 25), (27, 7, 29)], [(13, 4, 15), (17, 4, 19)], [(13, 4, 15)], [(17, 6, 19), (21, 6, 23)], [(17, 6, 19), (21, 6, 23)], [(17, 6, 19), (21, 6, 23), (25, 6, 27)], [(13, 4, 15), (17, 4, 19), (21, 4, 23)], [(11, 2, 12)], [(17, 6, 19), (21, 6, 23), (25, 6, 27)], [(13, 4, 15), (17, 4, 19)], [(12, 3, 13), (15, 3, 16)], [(12, 3, 13)], [(12, 3, 13), (15, 3, 16)], [(12, 3, 13), (15, 3, 16)], [(13, 4, 15), (17, 4, 19), (21, 4, 23)], [(11, 2, 12)], [(12, 3, 13)], [(12, 3, 13)], [(12, 3, 13)], [(12, 3, 13)], [(10, 2, 11)], [(11, 2, 12)], [(12, 3, 13), (15, 3, 16)], [(11, 2, 12), (14, 2, 15), (17, 2, 18)], [(11, 2, 12)], [(11, 2, 12)], [(11, 2, 12)], []]
def mg_excs : List String := ["java/lang/IndexOutOfBoundsException", "java/lang/IllegalArgumentException", "java/lang/IllegalStateException", "java/util/NoSuchElementException", "java/lang/UnsupportedOperationException", "java/lang/ArithmeticException"]
def mg_at (mi pc : Nat) : Option mg_E := (mg_codes.getD mi []).find? (fun e => Nat.beq e.1 pc)
def mg_i0 : mg_I := (⟨"", "", ""⟩, .empty, 0, none, [], [])
def mg_i (mi : Nat) : mg_I := mg_infos.getD mi mg_i0
def mg_ret (mi : Nat) : Option FieldType := (mg_i mi).2.2.2.1
def mg_mlen (mi : Nat) : Nat := (mg_i mi).2.2.1
def mg_cls (mi : Nat) : Nat := mg_clss.getD mi 99
def mg_hx (mi : Nat) : List (Nat × Nat × Nat × Nat × Nat) := mg_hxs.getD mi []
def mg_nxt (mi h : Nat) : Option (Nat × Nat) := ((mg_nxs.getD mi []).find? (fun z => Nat.beq z.1 h)).map fun z => z.2
def mg_exc (E : Nat) : String := mg_excs.getD E ""
end
section
/-! WORDS AND PLACES -/
def mg_tw (w : Jvm.Cond) : Bool := goodWord w || (match w with
  | .methodLinkNest .. => true
  | .fieldLinkNest .. => true
  | .castable .. => true
  | .declares .. => true
  | _ => false)
def mg_Tb (U : State) : Prop := ∀ w ∈ lw_tbl, mg_tw w = true → va_Nw w U
theorem mg_Tb.warm {s U : State} (hW : s.WarmedH U.vm) (h : mg_Tb s) : mg_Tb U := by
  intro w hw ht
  have h1 := h w hw ht
  by_cases hg : goodWord w = true
  · exact word_at hW (good_of_word hg) h1
  · unfold mg_tw at ht
    rw [Bool.not_eq_true] at hg
    rw [hg] at ht
    cases w <;> first | exact va_Nw.warmM hW h1 | exact va_Nw.warmF hW h1 | exact va_Nw.warmC hW h1 | exact va_Nw.warmD hW h1 | exact absurd ht (by simp)
def mg_hasw (p : Nat) (w : Jvm.Cond) : Bool := decide (lw_tbl[p]? = some w) && mg_tw w
theorem mg_Tb.use {s : State} (h : mg_Tb s) {p : Nat} {w : Jvm.Cond} (hp : mg_hasw p w = true) (args : Array Value) : w.before args s = true := by
  unfold mg_hasw at hp
  simp only [Bool.and_eq_true, decide_eq_true_eq] at hp
  have h1 := h w (List.mem_of_getElem? hp.1) hp.2
  by_cases hg : goodWord w = true
  · exact word_at (State.WarmedH.refl s) (good_of_word hg) h1
  · have ht := hp.2
    unfold mg_tw at ht
    rw [Bool.not_eq_true] at hg
    rw [hg] at ht
    cases w <;> first | exact va_Nw.use rfl h1 | exact absurd ht (by simp)
theorem mg_Tb.useN {s : State} (h : mg_Tb s) {p : Nat} {w : Jvm.Cond} (hp : mg_hasw p w = true) : va_Nw w s := by
  unfold mg_hasw at hp
  simp only [Bool.and_eq_true, decide_eq_true_eq] at hp
  exact h w (List.mem_of_getElem? hp.1) hp.2
theorem mg_Tb.mem {s : State} (h : mg_Tb s) {Ts : List Jvm.Cond} (hT : ∀ w ∈ Ts, w ∈ lw_tbl ∧ goodWord w = true) (args : Array Value) : ∀ w ∈ Ts, w.before args s = true := fun w hw =>
  word_at (State.WarmedH.refl s) (good_of_word (hT w hw).2) (h w (hT w hw).1 (by unfold mg_tw; rw [(hT w hw).2]; rfl))
end
section
theorem mg_allapp {α : Type} {p : α → Bool} {a b : List α} (h1 : a.all p = true) (h2 : b.all p = true) : (a ++ b).all p = true := by rw [List.all_append, h1, h2]; rfl
def mg_N (mi : Nat) : MethodName := (mg_i mi).1
def mg_B (mi : Nat) : ByteArray := (mg_i mi).2.1
def mg_hh (mi : Nat) : List (Nat × Nat × Nat × Nat) := (mg_i mi).2.2.2.2.1
def mg_pl (mi k : Nat) : Nat := (mg_i mi).2.2.2.2.2.getD k 0
def mg_own (mi : Nat) : String := (mg_N mi).cls
def mg_mem (w : Jvm.Cond) : Bool := decide (w ∈ lw_tbl) && mg_tw w
def mg_aty (t : Nat) : FieldType := match t with
  | 0 => .int | 1 => .char | 2 => .long | _ => .double
def mg_len (ins : Instr) : Nat := match ins with
  | .bipush _ | .ldc _ | .iload _ | .aload _ | .fload _ | .dload _ | .istore _ | .astore _ | .fstore _ | .dstore _ | .newarray _ => 2
  | .sipush _ | .ldc_w _ | .iinc .. | .goto _ | .ifCond .. | .if_icmp .. | .getfield _ | .putfield _ | .invokevirtual _ | .invokespecial _ | .invokestatic _ | .new _ => 3
  | _ => 1
def mg_isSw (ins : Instr) : Bool := match ins with
  | .tableswitch .. => true
  | _ => false
/-- the words of a callee -/
def mg_codeW (y : Nat) : Jvm.Cond := match mg_hh y with
  | [] => .code (mg_N y) (mg_B y) (mg_mlen y) (mg_ret y)
  | hh => .codeWith (mg_N y) (mg_B y) (mg_mlen y) (mg_ret y) hh
def mg_mchk (y n : Nat) (st : Bool) : Bool := mg_hasw (mg_pl y 0) (mg_codeW y) && mg_hasw (mg_pl y 1) (.initialized (mg_own y)) && mg_hasw (mg_pl y 2) (if st then .static (mg_N y) else .instanceMethod (mg_N y)) &&
  decide (mg_own y ≠ "java/lang/invoke/MethodHandle" ∧ mg_own y ≠ "java/lang/invoke/VarHandle" ∧ (parseMethodDescriptor (mg_N y).desc).map (fun d => d.parameters.length) = some n) && plainName (mg_own y)
def mg_names : List String := ["java/lang/RuntimeException", "java/lang/Exception"]
def mg_isM (w : Jvm.Cond) : Bool := mg_mem w
/-- the words of 'throw new E(text)', E's constructor handing on by its entry ix -/
def mg_ix (E : Nat) : Nat := if E = 3 then 13 else 7
def mg_six (ix : Nat) : ByteArray := ⟨#[0x2a, 0x2b, 0xb7, 0x00, UInt8.ofNat ix, 0xb1]⟩
def mg_ats (own : String) (ic E : Nat) : List Jvm.Cond := (Bundle.throwableAtoms ++ Bundle.throwableSAtoms ++ (Bundle.passSAtoms (mg_exc E) "java/lang/RuntimeException" (mg_ix E) (mg_six (mg_ix E)) ++ Bundle.chainSAtoms "java/lang/RuntimeException" ["java/lang/Exception"]) ++
  ([.methodLink own ic (Bundle.initS (mg_exc E)), .instantiable (mg_exc E) 6, .castable (mg_exc E) (mg_exc E), .selects (mg_exc E) Bundle.tFill0 Bundle.tFill0, .selects (mg_exc E) Bundle.tFill Bundle.tFill,
   .lays (mg_exc E) Bundle.tN "cause" "Ljava/lang/Throwable;", .lays (mg_exc E) Bundle.tN "stackTrace" Bundle.steD, .lays (mg_exc E) Bundle.tN "suppressedExceptions" Bundle.listD, .lays (mg_exc E) Bundle.tN "detailMessage" "Ljava/lang/String;",
   .fieldLink Bundle.tN 198 Bundle.tN "backtrace" "Ljava/lang/Object;", .lays Bundle.tN Bundle.tN "backtrace" "Ljava/lang/Object;", .lays (mg_exc E) Bundle.tN "backtrace" "Ljava/lang/Object;"] : List Jvm.Cond)).filter vx_no
def mg_ics : List Nat := [75, 90, 103, 142, 389, 314]
def mg_tchk (own : String) (ic E : Nat) : Bool := (mg_ats own ic E).all (fun w => mg_mem w && vx_ot w)
set_option maxRecDepth 100000 in
theorem mg_tok_0 : mg_tchk "CustomsDesk" 75 0 = true := by decide +kernel
set_option maxRecDepth 100000 in
theorem mg_tok_1 : mg_tchk "CustomsDesk" 90 1 = true := by decide +kernel
set_option maxRecDepth 100000 in
theorem mg_tok_2 : mg_tchk "CustomsDesk" 103 2 = true := by decide +kernel
set_option maxRecDepth 100000 in
theorem mg_tok_3 : mg_tchk "CustomsDesk" 142 3 = true := by decide +kernel
set_option maxRecDepth 100000 in
theorem mg_tok_4 : mg_tchk "CustomsDesk" 389 4 = true := by decide +kernel
set_option maxRecDepth 100000 in
theorem mg_tok_5 : mg_tchk "CustomsDesk" 314 5 = true := by decide +kernel
def mg_rest (mi pc : Nat) (ins : Instr) (o : List Nat) : Bool := match ins with
    | .ldc k => match o with
      | [v] => mg_mem (.constant (mg_own mi) k (Int32.ofNat v))
      | _ => false
    | .ldc_w k => match o with
      | [v] => mg_mem (.constant (mg_own mi) k (Int32.ofNat v))
      | _ => false
    | .goto off => match o with
      | [t] => decide ((pc : Int) + off = (t : Int))
      | _ => false
    | .ifCond _ off => match o with
      | [t] => decide ((pc : Int) + off = (t : Int))
      | _ => false
    | .if_icmp _ off => match o with
      | [t] => decide ((pc : Int) + off = (t : Int))
      | _ => false
    | .tableswitch df _ _ offs => match o with
      | d :: ts => decide ((pc : Int) + df = (d : Int)) && decide (offs.toList.map (fun x => (pc : Int) + x) = ts.map Int.ofNat)
      | _ => false
    | .getfield idx => match o with
      | [ci, k, nest, p] => match mg_cl[ci]? with
        | some (_, T, N) => decide (k < N) && (match nest with
          | 0 => mg_hasw p (.fieldLink (mg_own mi) idx (T k).1 (T k).2.1 (T k).2.2.1)
          | _ => mg_hasw p (.fieldLinkNest (mg_own mi) idx (T k).1 (T k).2.1 (T k).2.2.1 "CustomsDesk"))
        | none => false
      | _ => false
    | .putfield idx => match o with
      | [ci, k, nest, p] => match mg_cl[ci]? with
        | some (_, T, N) => decide (k < N) && (match nest with
          | 0 => mg_hasw p (.fieldLink (mg_own mi) idx (T k).1 (T k).2.1 (T k).2.2.1) && ((T k).2.2.2 == false || (decide ((mg_N mi).name = "<init>") && decide ((T k).1 = mg_own mi)))
          | _ => mg_hasw p (.fieldLinkNest (mg_own mi) idx (T k).1 (T k).2.1 (T k).2.2.1 "CustomsDesk") && (T k).2.2.2 == false)
        | none => false
      | _ => false
    | .invokevirtual idx => match o with
      | [y, n, p] => mg_hasw p (.methodLink (mg_own mi) idx (mg_N y)) && mg_mchk y n false && mg_hasw (mg_pl y 3) (.selects (mg_own y) (mg_N y) (mg_N y)) && decide (mg_hh y = []) && decide ((mg_cl[mg_cls y]?).map (fun q => q.1) = some (mg_own y))
      | _ => false
    | .invokestatic idx => match o with
      | [k, y, n, p] => (match k with
        | 0 => mg_hasw p (.methodLink (mg_own mi) idx (mg_N y)) && decide (mg_hh y = [])
        | 1 => mg_hasw p (.methodLinkNest (mg_own mi) idx (mg_N y) "CustomsDesk") && decide (mg_hh y = [])
        | 2 => mg_hasw p (.methodLink (mg_own mi) idx (mg_N y)) && decide (mg_hh y ≠ [])
        | _ => false) && mg_mchk y n true
      | [3, p] => mg_hasw p (.methodLink (mg_own mi) idx Lib.Math.max.name)
      | [4, p] => mg_hasw p (.methodLink (mg_own mi) idx Lib.Math.min.name)
      | [5, p] => mg_hasw p (.methodLink (mg_own mi) idx arraycopyName)
      | _ => false
    | .invokespecial idx => match o with
      | [k, y, n, p] => (match k with
        | 0 => mg_hasw p (.methodLink (mg_own mi) idx (mg_N y))
        | 1 => mg_hasw p (.methodLinkNest (mg_own mi) idx (mg_N y) "CustomsDesk")
        | _ => false) && mg_mchk y n false && decide (mg_hh y = []) && decide ((mg_N y).name = "<init>") && decide (mg_ret y = none) && decide ((mg_cl[mg_cls y]?).map (fun q => q.1) = some (mg_own y))
      | [2, p] => mg_hasw p (.methodLink (mg_own mi) idx Lib.objectInit)
      | _ => false
    | .newarray at9 => match o with
      | [t] => Nat.blt t 4 && decide (newarray.typeOf at9 = mg_aty t)
      | _ => false
    | .new idx => match o with
      | [0, ci, p] => match mg_cl[ci]? with
        | some (C, _, N) => mg_hasw p (.classLink (mg_own mi) idx C) && mg_mem (.instantiable C N) && mg_mem (.initialized C)
        | none => false
      | [1, E, is9, ic, wide, p, ps] => Nat.blt E 6 && mg_hasw p (.classLink (mg_own mi) idx (mg_exc E)) && mg_mem (.initialized (mg_exc E)) && vx_ot (.classLink (mg_own mi) idx (mg_exc E)) && vx_ot (.initialized (mg_exc E)) &&
        decide (decode (mg_B mi) (pc + 3) = .ok (.dup, 1)) && decide (mg_own mi = "CustomsDesk") && Nat.beq (mg_ics.getD E 0) ic && (match lw_tbl[ps]? with
          | some (.stringRef ow kk _) => decide (ow = mg_own mi) && Nat.beq kk is9
          | _ => false) && decide (mg_hh mi = []) && (match wide with
          | 0 => decide (decode (mg_B mi) (pc + 4) = .ok (.ldc is9, 2)) && decide (decode (mg_B mi) (pc + 6) = .ok (.invokespecial ic, 3)) && decide (decode (mg_B mi) (pc + 9) = .ok (.athrow, 1))
          | _ => decide (decode (mg_B mi) (pc + 4) = .ok (.ldc_w is9, 3)) && decide (decode (mg_B mi) (pc + 7) = .ok (.invokespecial ic, 3)) && decide (decode (mg_B mi) (pc + 10) = .ok (.athrow, 1)))
      | _ => false
    | _ => true
def mg_chk (mi : Nat) (e : mg_E) : Bool := match e with
  | (pc, ins, len, o) => decide (decode (mg_B mi) pc = .ok (ins, len)) && (mg_isSw ins || Nat.beq len (mg_len ins)) && mg_rest mi pc ins o
end
section
theorem mg_ok {mi pc : Nat} {e : mg_E} (h : mg_at mi pc = some e) : e.1 = pc ∧ mg_chk mi e = true := sorry
end
section
def mg_ldI (loc : mg_L) (i : Nat) : Option Value := match loc[i]? with
  | some (some (.int x)) => some (.int x)
  | _ => none
def mg_ldA (loc : mg_L) (i : Nat) : Option Value := match loc[i]? with
  | some (some (.ref x)) => some (.ref x)
  | _ => none
def mg_ldF (loc : mg_L) (i : Nat) : Option Value := match loc[i]? with
  | some (some (.float x)) => some (.float x)
  | _ => none
def mg_ldD (loc : mg_L) (i : Nat) : Option Value := match loc[i]? with
  | some (some (.double x)) => some (.double x)
  | _ => none
def mg_kill (loc : mg_L) (i : Nat) : mg_L := match i with
  | 0 => loc
  | j + 1 => match loc[j]? with
    | some (some (.long _)) => loc.set j none
    | some (some (.double _)) => loc.set j none
    | _ => loc
def mg_st1 (loc : mg_L) (i : Nat) (v : Value) : mg_L := (mg_kill loc i).set i (some v)
def mg_st2 (loc : mg_L) (i : Nat) (v : Value) : mg_L := ((mg_kill loc i).set i (some v)).set (i + 1) none
def mg_fit (ty : FieldType) (v : Value) : Bool := match ty, v with
  | .int, .int _ => true
  | .boolean, .int x => x == 0 || x == 1
  | .object _, .ref _ => true
  | .array _, .ref _ => true
  | _, _ => false
def mg_iald (sc : mg_Sc) (w : mg_S) (a : Nat) (i : Int32) : Option Value := match a with
  | 0 => if i < 0 ∨ sc.1 ≤ i.toNatClampNeg then none else some (.int (sc.2 i.toNatClampNeg))
  | a + 1 => match w.1[a]? with
    | some (.inl (0, n, .inl f)) => if i < 0 ∨ n ≤ i.toNatClampNeg then none else some (.int (f i.toNatClampNeg))
    | _ => none
def mg_alen (sc : mg_Sc) (w : mg_S) (a : Nat) : Option Value := match a with
  | 0 => some (.int (Int32.ofNat sc.1))
  | a + 1 => match w.1[a]? with
    | some (.inl x) => if x.1 < 4 then some (.int (Int32.ofNat x.2.1)) else none
    | _ => none
def mg_zero (t N : Nat) : Option vp_A := match t with
  | 0 => some (N, .inl (fun _ => 0))
  | 1 => some (N, .inl (fun _ => 0))
  | 2 => some (N, .inr (.inl (fun _ => 0)))
  | 3 => some (N, .inr (.inr (.inr (.inl (fun _ => 0)))))
  | _ => none
def mg_upc (w : mg_S) (a : Nat) (c : mg_C) : mg_S := (w.1.set a c, w.2)
def mg_dflt (t : FieldType) : Value := match t with
  | .int => .int 0
  | .boolean => .int 0
  | _ => .null
def mg_new (ci : Nat) : Option (List Value) := match ci with
  | 0 => some ((List.range 5).map fun k => mg_dflt (tyX0 k))
  | 1 => some ((List.range 2).map fun k => mg_dflt (tyX1 k))
  | 2 => some ((List.range 5).map fun k => mg_dflt (tyX2 k))
  | 3 => some ((List.range 1).map fun k => mg_dflt (tyX3 k))
  | 4 => some ((List.range 4).map fun k => mg_dflt (tyX4 k))
  | 5 => some ((List.range 4).map fun k => mg_dflt (tyX5 k))
  | 6 => some ((List.range 5).map fun k => mg_dflt (tyX6 k))
  | 7 => some ((List.range 10).map fun k => mg_dflt (tyX7 k))
  | 8 => some ((List.range 16).map fun k => mg_dflt (tyX8 k))
  | _ => none
def mg_br (c : Prop) [Decidable c] (tgt nx : Nat) (loc : mg_L) (st : List Value) (w : mg_S) : Option (Nat × mg_L × List Value × mg_S) := some (if c then tgt else nx, loc, st, w)
/-- one instruction that is no call, no end -/
def mg_step (sc : mg_Sc) (e : mg_E) (loc : mg_L) (st : List Value) (w : mg_S) : Option (Nat × mg_L × List Value × mg_S) := match e with
  | (pc, ins, len, o) => match ins with
    | .iconst n => some (pc + 1, loc, .int (Int32.ofInt n) :: st, w)
    | .bipush n => some (pc + 2, loc, .int (Int8.ofInt n).toInt32 :: st, w)
    | .sipush n => some (pc + 3, loc, .int (Int16.ofInt n).toInt32 :: st, w)
    | .ldc _ => match o with
      | [v] => some (pc + 2, loc, .int (Int32.ofNat v) :: st, w)
      | _ => none
    | .ldc_w _ => match o with
      | [v] => some (pc + 3, loc, .int (Int32.ofNat v) :: st, w)
      | _ => none
    | .fconst 0 => some (pc + 1, loc, .float FP.fconst0 :: st, w)
    | .dconst 0 => some (pc + 1, loc, .double FP.dconst0 :: st, w)
    | .iload i => (mg_ldI loc i).map fun v => (pc + 2, loc, v :: st, w)
    | .iload_n i => (mg_ldI loc i).map fun v => (pc + 1, loc, v :: st, w)
    | .aload i => (mg_ldA loc i).map fun v => (pc + 2, loc, v :: st, w)
    | .aload_n i => (mg_ldA loc i).map fun v => (pc + 1, loc, v :: st, w)
    | .fload i => (mg_ldF loc i).map fun v => (pc + 2, loc, v :: st, w)
    | .dload i => (mg_ldD loc i).map fun v => (pc + 2, loc, v :: st, w)
    | .istore i => match st with
      | .int x :: r => if i < loc.length then some (pc + 2, mg_st1 loc i (.int x), r, w) else none
      | _ => none
    | .istore_n i => match st with
      | .int x :: r => if i.val < loc.length then some (pc + 1, mg_st1 loc i (.int x), r, w) else none
      | _ => none
    | .astore i => match st with
      | .ref x :: r => if i < loc.length then some (pc + 2, mg_st1 loc i (.ref x), r, w) else none
      | _ => none
    | .astore_n i => match st with
      | .ref x :: r => if i.val < loc.length then some (pc + 1, mg_st1 loc i (.ref x), r, w) else none
      | _ => none
    | .fstore i => match st with
      | .float x :: r => if i < loc.length then some (pc + 2, mg_st1 loc i (.float x), r, w) else none
      | _ => none
    | .dstore i => match st with
      | .double x :: r => if i + 1 < loc.length then some (pc + 2, mg_st2 loc i (.double x), r, w) else none
      | _ => none
    | .iinc i n => match loc[i]? with
      | some (some (.int x)) => some (pc + 3, mg_st1 loc i (.int (x + Int32.ofInt n)), st, w)
      | _ => none
    | .iadd => match st with
      | .int y :: .int x :: r => some (pc + 1, loc, .int (x + y) :: r, w)
      | _ => none
    | .isub => match st with
      | .int y :: .int x :: r => some (pc + 1, loc, .int (x - y) :: r, w)
      | _ => none
    | .imul => match st with
      | .int y :: .int x :: r => some (pc + 1, loc, .int (x * y) :: r, w)
      | _ => none
    | .iand => match st with
      | .int y :: .int x :: r => some (pc + 1, loc, .int (x &&& y) :: r, w)
      | _ => none
    | .ior => match st with
      | .int y :: .int x :: r => some (pc + 1, loc, .int (x ||| y) :: r, w)
      | _ => none
    | .idiv => match st with
      | .int y :: .int x :: r => if y = 0 then none else some (pc + 1, loc, .int (x / y) :: r, w)
      | _ => none
    | .irem => match st with
      | .int y :: .int x :: r => if y = 0 then none else some (pc + 1, loc, .int (x - x / y * y) :: r, w)
      | _ => none
    | .ineg => match st with
      | .int x :: r => some (pc + 1, loc, .int (0 - x) :: r, w)
      | _ => none
    | .i2l => match st with
      | .int x :: r => some (pc + 1, loc, .long x.toInt64 :: r, w)
      | _ => none
    | .i2c => match st with
      | .int x :: r => some (pc + 1, loc, .int (x.toUInt32 % 65536).toInt32 :: r, w)
      | _ => none
    | .i2f => match st with
      | .int x :: r => some (pc + 1, loc, .float (FP.i2f x) :: r, w)
      | _ => none
    | .i2d => match st with
      | .int x :: r => some (pc + 1, loc, .double (FP.i2d x) :: r, w)
      | _ => none
    | .f2d => match st with
      | .float x :: r => if FP.f2d x &&& 0x7fffffffffffffff ≤ 0x7ff0000000000000 then some (pc + 1, loc, .double (FP.f2d x) :: r, w) else none
      | _ => none
    | .fdiv => match st with
      | .float y :: .float x :: r => if FP.fdiv x y &&& 0x7fffffff ≤ 0x7f800000 then some (pc + 1, loc, .float (FP.fdiv x y) :: r, w) else none
      | _ => none
    | .ddiv => match st with
      | .double y :: .double x :: r => if FP.ddiv x y &&& 0x7fffffffffffffff ≤ 0x7ff0000000000000 then some (pc + 1, loc, .double (FP.ddiv x y) :: r, w) else none
      | _ => none
    | .lcmp => match st with
      | .long y :: .long x :: r => some (pc + 1, loc, .int (lg_cmp x y) :: r, w)
      | _ => none
    | .fcmp op => match st with
      | .float y :: .float x :: r => some (pc + 1, loc, .int (Op.cmpValue (FP.fcmp x y) op) :: r, w)
      | _ => none
    | .dcmp op => match st with
      | .double y :: .double x :: r => some (pc + 1, loc, .int (Op.cmpValue (FP.dcmp x y) op) :: r, w)
      | _ => none
    | .dup => match st with
      | .int x :: r => some (pc + 1, loc, .int x :: .int x :: r, w)
      | .ref x :: r => some (pc + 1, loc, .ref x :: .ref x :: r, w)
      | _ => none
    | .dup2 => match st with
      | .int x :: .int y :: r => some (pc + 1, loc, .int x :: .int y :: .int x :: .int y :: r, w)
      | .int x :: .ref y :: r => some (pc + 1, loc, .int x :: .ref y :: .int x :: .ref y :: r, w)
      | _ => none
    | .pop => match st with
      | .int _ :: r => some (pc + 1, loc, r, w)
      | .ref _ :: r => some (pc + 1, loc, r, w)
      | _ => none
    | .goto _ => match o with
      | [t] => some (t, loc, st, w)
      | _ => none
    | .ifCond c _ => match o, st with
      | [t], .int x :: r => match c with
        | .eq => mg_br (x = 0) t (pc + 3) loc r w
        | .ne => mg_br (x = 0) (pc + 3) t loc r w
        | .lt => mg_br (x < 0) t (pc + 3) loc r w
        | .ge => mg_br (0 ≤ x) t (pc + 3) loc r w
        | .gt => mg_br (0 < x) t (pc + 3) loc r w
        | .le => mg_br (x ≤ 0) t (pc + 3) loc r w
      | _, _ => none
    | .if_icmp c _ => match o, st with
      | [t], .int y :: .int x :: r => match c with
        | .eq => mg_br (x = y) t (pc + 3) loc r w
        | .ne => mg_br (x = y) (pc + 3) t loc r w
        | .lt => mg_br (x < y) t (pc + 3) loc r w
        | .ge => mg_br (y ≤ x) t (pc + 3) loc r w
        | .gt => mg_br (y < x) t (pc + 3) loc r w
        | .le => mg_br (x ≤ y) t (pc + 3) loc r w
      | _, _ => none
    | .tableswitch _ lo hi _ => match o, st with
      | d :: ts, .int x :: r => if x.toInt < lo ∨ hi < x.toInt then some (d, loc, r, w) else (ts[(x.toInt - lo).toNat]?).map fun t => (t, loc, r, w)
      | _, _ => none
    | .getfield _ => match o, st with
      | ci :: k :: _, .ref (a + 1) :: r => match w.1[a]? with
        | some (.inr (c, fs)) => if c = ci then (fs[k]?).map fun v => (pc + 3, loc, v :: r, w) else none
        | _ => none
      | _, _ => none
    | .putfield _ => match o, st with
      | ci :: k :: _, v :: .ref (a + 1) :: r => match w.1[a]? with
        | some (.inr (c, fs)) => if c = ci ∧ k < fs.length ∧ mg_fit (mg_ty ci k) v = true then some (pc + 3, loc, r, mg_upc w a (.inr (c, fs.set k v))) else none
        | _ => none
      | _, _ => none
    | .iaload => match st with
      | .int i :: .ref a :: r => (mg_iald sc w a i).map fun v => (pc + 1, loc, v :: r, w)
      | _ => none
    | .caload => match st with
      | .int i :: .ref (a + 1) :: r => match w.1[a]? with
        | some (.inl (1, n, .inl f)) => if i < 0 ∨ n ≤ i.toNatClampNeg then none else some (pc + 1, loc, .int (f i.toNatClampNeg) :: r, w)
        | _ => none
      | _ => none
    | .laload => match st with
      | .int i :: .ref (a + 1) :: r => match w.1[a]? with
        | some (.inl (2, n, .inr (.inl f))) => if i < 0 ∨ n ≤ i.toNatClampNeg then none else some (pc + 1, loc, .long (f i.toNatClampNeg) :: r, w)
        | _ => none
      | _ => none
    | .daload => match st with
      | .int i :: .ref (a + 1) :: r => match w.1[a]? with
        | some (.inl (3, n, .inr (.inr (.inr (.inl f))))) => if i < 0 ∨ n ≤ i.toNatClampNeg then none else some (pc + 1, loc, .double (f i.toNatClampNeg) :: r, w)
        | _ => none
      | _ => none
    | .iastore => match st with
      | .int x :: .int i :: .ref (a + 1) :: r => match w.1[a]? with
        | some (.inl (0, n, .inl f)) => if i < 0 ∨ n ≤ i.toNatClampNeg then none else some (pc + 1, loc, r, mg_upc w a (.inl (0, n, .inl (upd f i.toNatClampNeg x))))
        | _ => none
      | _ => none
    | .castore => match st with
      | .int x :: .int i :: .ref (a + 1) :: r => match w.1[a]? with
        | some (.inl (1, n, .inl f)) => if i < 0 ∨ n ≤ i.toNatClampNeg then none else some (pc + 1, loc, r, mg_upc w a (.inl (1, n, .inl (upd f i.toNatClampNeg (vp_nar .char x)))))
        | _ => none
      | _ => none
    | .lastore => match st with
      | .long x :: .int i :: .ref (a + 1) :: r => match w.1[a]? with
        | some (.inl (2, n, .inr (.inl f))) => if i < 0 ∨ n ≤ i.toNatClampNeg then none else some (pc + 1, loc, r, mg_upc w a (.inl (2, n, .inr (.inl (vp_updL f i.toNatClampNeg x)))))
        | _ => none
      | _ => none
    | .dastore => match st with
      | .double x :: .int i :: .ref (a + 1) :: r => match w.1[a]? with
        | some (.inl (3, n, .inr (.inr (.inr (.inl f))))) => if i < 0 ∨ n ≤ i.toNatClampNeg then none else some (pc + 1, loc, r, mg_upc w a (.inl (3, n, .inr (.inr (.inr (.inl (vf_upd f i.toNatClampNeg x)))))))
        | _ => none
      | _ => none
    | .arraylength => match st with
      | .ref a :: r => (mg_alen sc w a).map fun v => (pc + 1, loc, v :: r, w)
      | _ => none
    | .newarray _ => match o, st with
      | [t], .int n :: r => if n < 0 ∨ 100000 < n.toNatClampNeg ∨ w.2.1 ≠ w.1.length then none else
        (mg_zero t n.toNatClampNeg).map fun z => (pc + 2, loc, .ref (w.1.length + 1) :: r, (w.1 ++ [.inl (t, z)], w.2.1 + 1, w.2.2 + n.toNatClampNeg))
      | _, _ => none
    | .new _ => match o with
      | [0, ci, _] => if w.2.1 ≠ w.1.length then none else
        (mg_new ci).map fun fs => (pc + 3, loc, .ref (w.1.length + 1) :: st, (w.1 ++ [.inr (ci, fs)], w.2.1 + 1, w.2.2 + fs.length))
      | _ => none
    | .invokespecial _ => match o, st with
      | [2, _], .ref _ :: r => if st.length ≤ 8 then some (pc + 3, loc, r, w) else none
      | _, _ => none
    | .invokestatic _ => match o, st with
      | [3, _], .int y :: .int x :: r => if r.length ≤ 8 then some (pc + 3, loc, .int (if x < y then y else x) :: r, w) else none
      | [4, _], .int y :: .int x :: r => if r.length ≤ 8 then some (pc + 3, loc, .int (if y < x then y else x) :: r, w) else none
      | [5, _], .int n :: .int dp :: .ref (a1 + 1) :: .int sp :: .ref (a0 + 1) :: r => match w.1[a0]?, w.1[a1]? with
        | some (.inl (0, n0, .inl f)), some (.inl (0, n1, .inl g)) => if r.length ≤ 8 ∧ ¬ sp < 0 ∧ ¬ dp < 0 ∧ ¬ n < 0 ∧ sp.toNatClampNeg + n.toNatClampNeg ≤ n0 ∧ dp.toNatClampNeg + n.toNatClampNeg ≤ n1 then
            some (pc + 3, loc, r, mg_upc w a1 (.inl (0, n1, .inl (va_cpy f g sp.toNatClampNeg dp.toNatClampNeg n.toNatClampNeg)))) else none
        | _, _ => none
      | _, _ => none
    | _ => none
/-- a call: the callee, its arguments, what stays on the stack -/
def mg_split (n : Nat) (st : List Value) : Option (List Value × List Value) := if n ≤ st.length then some ((st.take n).reverse, st.drop n) else none
def mg_isObj (w : mg_S) (ci : Nat) (v : Value) : Bool := match v with
  | .ref (a + 1) => match w.1[a]? with
    | some (.inr (c, _)) => c == ci
    | _ => false
  | _ => false
def mg_light (st : List Value) : Bool := decide ((st.map fun v => v.category).sum ≤ 8)
/-- one word each -/
def mg_cat1 (as : List Value) : Bool := as.all fun v => Nat.beq v.category 1
/-- cls: the class number of a method (by its number) -/
def mg_call (cls : Nat → Nat) (e : mg_E) (st : List Value) (w : mg_S) : Option (Nat × List Value × List Value) := match e with
  | (_, ins, _, o) => match ins with
    | .invokevirtual _ => match o with
      | [y, n, _] => match mg_split (n + 1) st with
        | some (b :: as, r) => if mg_isObj w (cls y) b = true ∧ mg_light r = true ∧ mg_cat1 (b :: as) = true then some (y, b :: as, r) else none
        | _ => none
      | _ => none
    | .invokestatic _ => match o with
      | [k, y, n, _] => if k ≤ 2 then match mg_split n st with
        | some (as, r) => if mg_light r = true ∧ mg_cat1 as = true then some (y, as, r) else none
        | _ => none
        else none
      | _ => none
    | .invokespecial _ => match o with
      | [k, y, n, _] => if k ≤ 1 then match mg_split (n + 1) st with
        | some (b :: as, r) => if mg_isObj w (cls y) b = true ∧ mg_light r = true ∧ mg_cat1 (b :: as) = true then some (y, b :: as, r) else none
        | _ => none
        else none
      | _ => none
    | _ => none
/-- an end: an answer, or a throw -/
def mg_end (ret : Option FieldType) (e : mg_E) (st : List Value) (w : mg_S) : Option mg_R := match e with
  | (_, ins, _, o) => match ins with
    | .ireturn => match ret, st with
      | some .int, [.int x] => some (.inl (some (.int x)), w)
      | some .boolean, [.int x] => if x = 0 ∨ x = 1 then some (.inl (some (.int x)), w) else none
      | _, _ => none
    | .return_ => match ret, st with
      | none, [] => some (.inl none, w)
      | _, _ => none
    | .areturn => match ret, st with
      | some (.object _), [.ref x] => some (.inl (some (.ref x)), w)
      | _, _ => none
    | .freturn => match ret, st with
      | some .float, [.float x] => some (.inl (some (.float x)), w)
      | _, _ => none
    | .dreturn => match ret, st with
      | some .double, [.double x] => some (.inl (some (.double x)), w)
      | _, _ => none
    | .new _ => match o with
      | 1 :: E :: _ => if st = [] then some (.inr E, (w.1, w.2.1 + 1, w.2.2 + 6)) else none
      | _ => none
    | _ => none
/-- where a throw is caught: none: nowhere; some none: not said; some (place of the local, next row) -/
def mg_caught (hx : List (Nat × Nat × Nat × Nat × Nat)) (nxt : Nat → Option (Nat × Nat)) (pc E : Nat) : Option (Option (Nat × Nat)) := match hx with
  | [] => none
  | h => match h.find? (fun z => Nat.ble z.1 pc && Nat.blt pc z.2.1 && Nat.beq z.2.2.2.1 E) with
    | some z => some (nxt z.2.2.1)
    | none => some none
def mg_entry (mi : Nat) (as : List Value) : mg_L := as.map some ++ List.replicate (mg_mlen mi - as.length) none
/-- the run: fuel, how deep calls may go, the method, the row, the locals, the stack, the cells -/
def mg_run (sc : mg_Sc) : Nat → Nat → Nat → Nat → mg_L → List Value → mg_S → Option mg_R
  | 0, _, _, _, _, _, _ => none
  | n + 1, d, mi, pc, loc, st, w => match mg_at mi pc with
    | none => none
    | some e => match mg_call mg_cls e st w with
      | some (y, as, r) => match d with
        | 0 => none
        | d + 1 => if mg_mlen y < as.length then none else match mg_run sc n d y 0 (mg_entry y as) [] w with
          | some (.inl v, w1) => mg_run sc n (d + 1) mi (pc + 3) loc (v.toList ++ r) w1
          | some (.inr E, w1) => match mg_caught (mg_hx mi) (mg_nxt mi) pc E with
            | none => some (.inr E, w1)
            | some (some q) => mg_run sc n (d + 1) mi q.2 ((mg_kill loc q.1).set q.1 none) [] w1
            | some none => none
          | none => none
      | none => match mg_end (mg_ret mi) e st w with
        | some r => some r
        | none => match mg_step sc e loc st w with
          | some (pc', loc', st', w') => mg_run sc n d mi pc' loc' st' w'
          | none => none
end
section
/-! the concrete world behind the list -/
section CV
variable (b n0 : Nat) (dT : Nat → ClassId)
def mg_ad (a : Nat) : Nat := match a with
  | 0 => b
  | k + 1 => n0 + k
def mg_cv (v : Value) : Value := match v with
  | .ref a => .ref (mg_ad b n0 a)
  | v => v
def mg_cc (c : mg_C) : va_E := match c with
  | .inl x => .inl (dT x.1, x.2)
  | .inr o => .inr (o.1, o.2.map (mg_cv b n0))
def mg_ws (w : List mg_C) : va_W := w.mapIdx fun k c => (n0 + k, mg_cc b n0 dT c)
end CV
section WS
variable {b n0 : Nat} {dT : Nat → ClassId}
theorem mg_ws_get {w : List mg_C} {k : Nat} {c : mg_C} (h : w[k]? = some c) : (mg_ws b n0 dT w)[k]? = some (n0 + k, mg_cc b n0 dT c) := by
  unfold mg_ws
  rw [List.getElem?_mapIdx, h]
  rfl
theorem mg_ws_of {w : List mg_C} {k : Nat} {q : Nat × va_E} (h : (mg_ws b n0 dT w)[k]? = some q) : ∃ c, w[k]? = some c ∧ q = (n0 + k, mg_cc b n0 dT c) := by
  unfold mg_ws at h
  rw [List.getElem?_mapIdx] at h
  cases hc : w[k]? with
  | none => rw [hc] at h; cases h
  | some c => rw [hc] at h; exact ⟨c, rfl, (Option.some.inj h).symm⟩
theorem mg_ws_set (w : List mg_C) (k : Nat) (c : mg_C) : (mg_ws b n0 dT w).set k (n0 + k, mg_cc b n0 dT c) = mg_ws b n0 dT (w.set k c) := by
  apply List.ext_getElem?
  intro i
  unfold mg_ws
  rw [List.getElem?_mapIdx, List.getElem?_set, List.getElem?_set, List.getElem?_mapIdx, List.length_mapIdx]
  by_cases h : k = i
  · subst h
    rw [if_pos rfl, if_pos rfl]
    by_cases h2 : k < w.length
    · rw [if_pos h2, if_pos h2]; rfl
    · rw [if_neg h2, if_neg h2]; rfl
  · rw [if_neg h, if_neg h]
theorem mg_ws_app (w : List mg_C) (c : mg_C) : mg_ws b n0 dT w ++ [(n0 + w.length, mg_cc b n0 dT c)] = mg_ws b n0 dT (w ++ [c]) := by
  unfold mg_ws
  rw [List.mapIdx_concat]
theorem mg_ws_D (w : List mg_C) : va_D (fun q => n0 ≤ q) (mg_ws b n0 dT w) := by
  refine ⟨fun i j p q hi hj h => ?_, fun k q hk => ?_⟩
  · obtain ⟨c, -, rfl⟩ := mg_ws_of hi
    obtain ⟨c', -, rfl⟩ := mg_ws_of hj
    have h : n0 + i = n0 + j := h
    omega
  · obtain ⟨c, -, rfl⟩ := mg_ws_of hk
    exact Nat.le_add_right _ _
end WS
/-! the locals -/
def mg_Lo (b n0 : Nat) (ls : Array Slot) (nL : Nat) (loc : mg_L) : Prop := ls.size = nL ∧ lv_wf ls ∧ loc.length ≤ nL ∧ ∀ (i : Nat) (v : Value), loc[i]? = some (some v) → ls[i]? = some (.val (mg_cv b n0 v))
def mg_lv (b n0 : Nat) (loc : mg_L) : List (Nat × Value) := (List.range loc.length).filterMap fun i => match loc[i]? with
  | some (some v) => some (i, mg_cv b n0 v)
  | _ => none
section LO
variable {b n0 : Nat} {ls ls' : Array Slot} {nL i : Nat} {loc : mg_L} {v : Value}
theorem mg_lv_mem {q : Nat × Value} : q ∈ mg_lv b n0 loc ↔ ∃ v, loc[q.1]? = some (some v) ∧ q.2 = mg_cv b n0 v := by
  unfold mg_lv
  rw [List.mem_filterMap]
  constructor
  · rintro ⟨i, hi, h⟩
    cases hl : loc[i]? with
    | none => rw [hl] at h; cases h
    | some o =>
      cases o with
      | none => rw [hl] at h; cases h
      | some v =>
        rw [hl] at h
        cases h
        exact ⟨v, hl, rfl⟩
  · rintro ⟨v, h1, h2⟩
    refine ⟨q.1, ?_, ?_⟩
    · exact List.mem_range.mpr (List.getElem?_eq_some_iff.mp h1).1
    · rw [h1]
      obtain ⟨q1, q2⟩ := q
      cases h2
      rfl
theorem mg_Lo.has (h : mg_Lo b n0 ls nL loc) : lv_has ls nL (mg_lv b n0 loc) := by
  refine ⟨h.1, h.2.1, fun q hq => ?_⟩
  obtain ⟨v, h1, h2⟩ := mg_lv_mem.mp hq
  rw [h2]
  exact h.2.2.2 _ _ h1
theorem mg_cv_cat (v : Value) : (mg_cv b n0 v).category = v.category := by
  cases v <;> rfl
theorem mg_kill_get {j : Nat} {u : Value} (h : (mg_kill loc i)[j]? = some (some u)) : loc[j]? = some (some u) ∧ ¬ (j + 1 = i ∧ u.category = 2) := by
  unfold mg_kill at h
  cases i with
  | zero => exact ⟨h, fun q => by omega⟩
  | succ k =>
    dsimp only at h
    have key : ∀ (z : Value), loc[k]? = some (some z) → z.category = 2 → (loc.set k none)[j]? = some (some u) → loc[j]? = some (some u) ∧ ¬ (j + 1 = k + 1 ∧ u.category = 2) := by
      intro z hz hc h
      rw [List.getElem?_set] at h
      by_cases hk : k = j
      · rw [if_pos hk] at h
        split at h
        · cases h
        · cases h
      · rw [if_neg hk] at h
        exact ⟨h, fun q => hk (by omega)⟩
    split at h
    · next z hz => exact key _ hz rfl h
    · next z hz => exact key _ hz rfl h
    · next n1 n2 =>
      refine ⟨h, fun q => ?_⟩
      have hj : j = k := by omega
      subst hj
      cases u with
      | long z => exact n1 z h
      | double z => exact n2 z h
      | _ => exact absurd q.2 (by simp [Value.category])
theorem mg_kill_len : (mg_kill loc i).length = loc.length := by
  unfold mg_kill
  split
  · rfl
  · split <;> simp
theorem mg_Lo.st1 (h : mg_Lo b n0 ls nL loc) (h' : lv_has ls' nL ((i, mg_cv b n0 v) :: (mg_lv b n0 loc).filter (fun q => !(q.1 == i) && !(q.1 + 1 == i && q.2.category == 2)))) : mg_Lo b n0 ls' nL (mg_st1 loc i v) := by
  refine ⟨h'.1, h'.2.1, by unfold mg_st1; rw [List.length_set, mg_kill_len]; exact h.2.2.1, fun j u hj => ?_⟩
  unfold mg_st1 at hj
  rw [List.getElem?_set] at hj
  by_cases hi : i = j
  · rw [if_pos hi] at hj
    split at hj
    · cases hj
      subst hi
      exact h'.2.2 (i, mg_cv b n0 v) List.mem_cons_self
    · cases hj
  · rw [if_neg hi] at hj
    obtain ⟨h1, h2⟩ := mg_kill_get hj
    refine h'.2.2 (j, mg_cv b n0 u) (List.mem_cons_of_mem _ (List.mem_filter.mpr ⟨mg_lv_mem.mpr ⟨u, h1, rfl⟩, ?_⟩))
    simp only [mg_cv_cat, Bool.and_eq_true, Bool.not_eq_true', beq_eq_false_iff_ne, ne_eq, Bool.and_eq_false_iff]
    refine ⟨fun q => hi q.symm, ?_⟩
    by_cases q : j + 1 = i
    · exact Or.inr fun z => h2 ⟨q, z⟩
    · exact Or.inl q
theorem mg_Lo.st2 (h : mg_Lo b n0 ls nL loc) (h' : lv_has ls' nL ((i, mg_cv b n0 v) :: (mg_lv b n0 loc).filter (fun q => !(q.1 == i) && (!(q.1 == i + 1) && !(q.1 + 1 == i && q.2.category == 2))))) : mg_Lo b n0 ls' nL (mg_st2 loc i v) := by
  refine ⟨h'.1, h'.2.1, by unfold mg_st2; rw [List.length_set, List.length_set, mg_kill_len]; exact h.2.2.1, fun j u hj => ?_⟩
  unfold mg_st2 at hj
  rw [List.getElem?_set, List.getElem?_set] at hj
  by_cases hi1 : i + 1 = j
  · rw [if_pos hi1] at hj
    split at hj <;> cases hj
  · rw [if_neg hi1] at hj
    by_cases hi : i = j
    · rw [if_pos hi] at hj
      split at hj
      · cases hj
        subst hi
        exact h'.2.2 (i, mg_cv b n0 v) List.mem_cons_self
      · cases hj
    · rw [if_neg hi] at hj
      obtain ⟨h1, h2⟩ := mg_kill_get hj
      refine h'.2.2 (j, mg_cv b n0 u) (List.mem_cons_of_mem _ (List.mem_filter.mpr ⟨mg_lv_mem.mpr ⟨u, h1, rfl⟩, ?_⟩))
      simp only [mg_cv_cat, Bool.and_eq_true, Bool.not_eq_true', beq_eq_false_iff_ne, ne_eq, Bool.and_eq_false_iff]
      refine ⟨fun q => hi q.symm, fun q => hi1 q.symm, ?_⟩
      by_cases q : j + 1 = i
      · exact Or.inr fun z => h2 ⟨q, z⟩
      · exact Or.inl q
theorem mg_Lo.drop (h : mg_Lo b n0 ls nL loc) : mg_Lo b n0 ls nL (loc.set i none) := by
  refine ⟨h.1, h.2.1, by rw [List.length_set]; exact h.2.2.1, fun j u hj => ?_⟩
  rw [List.getElem?_set] at hj
  by_cases hi : i = j
  · rw [if_pos hi] at hj
    split at hj <;> cases hj
  · rw [if_neg hi] at hj
    exact h.2.2.2 _ _ hj
theorem mg_Lo.forget1 (h : mg_Lo b n0 ls nL loc) {x : Value} (h' : lv_has ls' nL ((i, x) :: (mg_lv b n0 loc).filter (fun q => !(q.1 == i) && !(q.1 + 1 == i && q.2.category == 2)))) : mg_Lo b n0 ls' nL ((mg_kill loc i).set i none) := by
  refine ⟨h'.1, h'.2.1, by rw [List.length_set, mg_kill_len]; exact h.2.2.1, fun j u hj => ?_⟩
  rw [List.getElem?_set] at hj
  by_cases hi : i = j
  · rw [if_pos hi] at hj
    split at hj <;> cases hj
  · rw [if_neg hi] at hj
    obtain ⟨h1, h2⟩ := mg_kill_get hj
    refine h'.2.2 (j, mg_cv b n0 u) (List.mem_cons_of_mem _ (List.mem_filter.mpr ⟨mg_lv_mem.mpr ⟨u, h1, rfl⟩, ?_⟩))
    simp only [mg_cv_cat, Bool.and_eq_true, Bool.not_eq_true', beq_eq_false_iff_ne, ne_eq, Bool.and_eq_false_iff]
    refine ⟨fun q => hi q.symm, ?_⟩
    by_cases q : j + 1 = i
    · exact Or.inr fun z => h2 ⟨q, z⟩
    · exact Or.inl q
end LO
end
section
/-! ONE STEP OF THE SMALL MACHINE IS ONE OF THE REAL ONE's -/
theorem mg_chk_at {mi pc : Nat} {ins : Instr} {len : Nat} {o : List Nat} (h : mg_chk mi (pc, ins, len, o) = true) : (mg_isSw ins = false → decode (mg_B mi) pc = .ok (ins, mg_len ins)) ∧ decode (mg_B mi) pc = .ok (ins, len) ∧ mg_rest mi pc ins o = true := by
  unfold mg_chk at h
  simp only [Bool.and_eq_true, decide_eq_true_eq, Bool.or_eq_true] at h
  obtain ⟨⟨h1, h2⟩, h3⟩ := h
  refine ⟨fun hs => ?_, h1, h3⟩
  rcases h2 with h2 | h2
  · rw [hs] at h2; cases h2
  · rw [← Nat.eq_of_beq_eq_true h2]; exact h1
theorem mg_ldI_spec {loc : mg_L} {i : Nat} {v : Value} (h : mg_ldI loc i = some v) : ∃ x, v = .int x ∧ loc[i]? = some (some (.int x)) := by
  unfold mg_ldI at h
  split at h
  · next x hx => cases h; exact ⟨x, rfl, hx⟩
  · cases h
theorem mg_ldA_spec {loc : mg_L} {i : Nat} {v : Value} (h : mg_ldA loc i = some v) : ∃ x, v = .ref x ∧ loc[i]? = some (some (.ref x)) := by
  unfold mg_ldA at h
  split at h
  · next x hx => cases h; exact ⟨x, rfl, hx⟩
  · cases h
theorem mg_ldF_spec {loc : mg_L} {i : Nat} {v : Value} (h : mg_ldF loc i = some v) : ∃ x, v = .float x ∧ loc[i]? = some (some (.float x)) := by
  unfold mg_ldF at h
  split at h
  · next x hx => cases h; exact ⟨x, rfl, hx⟩
  · cases h
theorem mg_ldD_spec {loc : mg_L} {i : Nat} {v : Value} (h : mg_ldD loc i = some v) : ∃ x, v = .double x ∧ loc[i]? = some (some (.double x)) := by
  unfold mg_ldD at h
  split at h
  · next x hx => cases h; exact ⟨x, rfl, hx⟩
  · cases h
theorem mg_st_len {st : List Value} {n : Nat} (h : st.length ≤ n) : (st.map fun v => v.category).sum ≤ 2 * n := by
  induction st generalizing n with
  | nil => exact Nat.zero_le _
  | cons v r ih =>
    cases n with
    | zero => simp at h
    | succ n =>
      have h2 := ih (n := n) (by simpa using h)
      have h3 : v.category ≤ 2 := by cases v <;> simp [Value.category]
      simp only [List.map_cons, List.sum_cons]
      omega
theorem mg_st_cat (b n0 : Nat) (st : List Value) : ((st.map (mg_cv b n0)).map fun v => v.category) = st.map fun v => v.category := by
  rw [List.map_map]
  apply List.map_congr_left
  intro v _
  exact mg_cv_cat v
def mg_tys (dT : Nat → ClassId) : List (ClassId × FieldType) := [(dT 0, .int), (dT 1, .char), (dT 2, .long), (dT 3, .double)]
/-- what the tables, the statics and the script are, at a state -/
def mg_V (b n0 : Nat) (dT : Nat → ClassId) (D : va_G) (sc : mg_Sc) (c0 : Nat) (U : State) : Prop :=
  mg_Tb U ∧ va_K D mg_cl (mg_tys dT) U ∧ (∀ (p : Nat) (own : String) (k : Nat) (tx : String), lw_tbl[p]? = some (.stringRef own k tx) → ∃ a, vk_R own k tx a U) ∧
  (∀ E F : Nat, E < 6 → F < 6 → E ≠ F → va_Nc (mg_exc E) (mg_exc F) U) ∧ vx_Zq Bundle.tN "UNASSIGNED_STACK" Bundle.steD (fun q => n0 ≤ q) U U.heap ∧ vx_Zq Bundle.tN "SUPPRESSED_SENTINEL" Bundle.listD (fun q => n0 ≤ q) U U.heap ∧
  va_X b sc.1 sc.2 U U.heap ∧ b < n0 ∧ n0 ≤ U.heap.size ∧ U.heap.size ≤ n0 + c0
def mg_Wd (b n0 : Nat) (dT : Nat → ClassId) (D : va_G) (w : mg_S) (H : Heap) : Prop := va_P D mg_cl (mg_ws b n0 dT w.1) H ∧ w.1.length ≤ w.2.1
def mg_X (p : Program) (l : Launch) (s : State) (m : MethodId) (meth : Method) (c : Code) (mi : Nat) : Prop :=
  p.tables.exec = Jvm.exec ∧ c.code = mg_B mi ∧ c.maxLocals = mg_mlen mi ∧ s.vm.findClass (mg_own mi) = some m.cls ∧ meth.sig.returnType = mg_ret mi ∧ meth.locks = false ∧ meth.name = (mg_N mi).name ∧ c.exceptionTable.toList = tableOf (mg_hh mi) ∧ l.stackTraces = false
def mg_K (p : Program) (l : Launch) (e : Env) (R : Room) (s : State) (m : MethodId) (args : Array Value) (below : List Frame) (meth : Method) (c : Code) (Q : State → Prop) (b n0 : Nat) (dT : Nat → ClassId) (D : va_G) (nL c0 z0 : Nat) (pc : Nat) (loc : mg_L) (st : List Value) (w : mg_S) : Prop :=
  ∀ (H : Heap) (locs : List Loc) (ls : Array Slot), mg_Wd b n0 dT D w H → va_S (fun q => n0 ≤ q) s.heap H locs → mg_Lo b n0 ls nL loc → c0 ≤ w.2.1 → z0 ≤ w.2.2 → W p l e R s m args below meth c H locs (w.2.1 - c0) (w.2.2 - z0) Q (F0 m pc ls (st.map (mg_cv b n0)))
/-! the classes' words -/
theorem mg_uw0 : ∀ w ∈ u_ws RX0 TX0 5, w ∈ lw_tbl ∧ goodWord w = true := by decide +kernel
theorem mg_uw1 : ∀ w ∈ u_ws RX1 TX1 2, w ∈ lw_tbl ∧ goodWord w = true := by decide +kernel
theorem mg_uw2 : ∀ w ∈ u_ws RX2 TX2 5, w ∈ lw_tbl ∧ goodWord w = true := by decide +kernel
theorem mg_uw3 : ∀ w ∈ u_ws RX3 TX3 1, w ∈ lw_tbl ∧ goodWord w = true := by decide +kernel
theorem mg_uw4 : ∀ w ∈ u_ws RX4 TX4 4, w ∈ lw_tbl ∧ goodWord w = true := by decide +kernel
theorem mg_uw5 : ∀ w ∈ u_ws RX5 TX5 4, w ∈ lw_tbl ∧ goodWord w = true := by decide +kernel
theorem mg_uw6 : ∀ w ∈ u_ws RX6 TX6 5, w ∈ lw_tbl ∧ goodWord w = true := by decide +kernel
theorem mg_uw7 : ∀ w ∈ u_ws RX7 TX7 10, w ∈ lw_tbl ∧ goodWord w = true := by decide +kernel
theorem mg_uw8 : ∀ w ∈ u_ws RX8 TX8 16, w ∈ lw_tbl ∧ goodWord w = true := by decide +kernel
theorem mg_clw {ci : Nat} {q : vw_C} (h : mg_cl[ci]? = some q) : (∀ w ∈ u_ws q.1 q.2.1 q.2.2, w ∈ lw_tbl ∧ goodWord w = true) ∧ (∀ k, k < q.2.2 → parseFieldDescriptor (q.2.1 k).2.2.1 = some (mg_ty ci k)) ∧ (∀ a, a < q.2.2 → ∀ b, b < q.2.2 → a ≠ b → (q.2.1 a).2.1 ≠ (q.2.1 b).2.1) := by
  match ci, h with
  | 0, h => cases h; exact ⟨mg_uw0, tyX0_ok, nmX0⟩
  | 1, h => cases h; exact ⟨mg_uw1, tyX1_ok, nmX1⟩
  | 2, h => cases h; exact ⟨mg_uw2, tyX2_ok, nmX2⟩
  | 3, h => cases h; exact ⟨mg_uw3, tyX3_ok, nmX3⟩
  | 4, h => cases h; exact ⟨mg_uw4, tyX4_ok, nmX4⟩
  | 5, h => cases h; exact ⟨mg_uw5, tyX5_ok, nmX5⟩
  | 6, h => cases h; exact ⟨mg_uw6, tyX6_ok, nmX6⟩
  | 7, h => cases h; exact ⟨mg_uw7, tyX7_ok, nmX7⟩
  | 8, h => cases h; exact ⟨mg_uw8, tyX8_ok, nmX8⟩
  | n + 9, h => simp at h
theorem mg_new_ok {ci : Nat} {q : vw_C} {fs : List Value} (h : mg_cl[ci]? = some q) (hf : mg_new ci = some fs) (b n0 : Nat) : fs.map (mg_cv b n0) = fs ∧ fs.length = q.2.2 ∧ ∀ j, j < q.2.2 → defaultValue (mg_ty ci j) = vp_V fs j := by
  match ci, h, hf with
  | 0, h, hf => cases h; cases hf; exact ⟨rfl, rfl, by decide⟩
  | 1, h, hf => cases h; cases hf; exact ⟨rfl, rfl, by decide⟩
  | 2, h, hf => cases h; cases hf; exact ⟨rfl, rfl, by decide⟩
  | 3, h, hf => cases h; cases hf; exact ⟨rfl, rfl, by decide⟩
  | 4, h, hf => cases h; cases hf; exact ⟨rfl, rfl, by decide⟩
  | 5, h, hf => cases h; cases hf; exact ⟨rfl, rfl, by decide⟩
  | 6, h, hf => cases h; cases hf; exact ⟨rfl, rfl, by decide⟩
  | 7, h, hf => cases h; cases hf; exact ⟨rfl, rfl, by decide⟩
  | 8, h, hf => cases h; cases hf; exact ⟨rfl, rfl, by decide⟩
  | n + 9, h, hf => simp at h
theorem mg_fit_ok {ty : FieldType} {v : Value} (h : mg_fit ty v = true) (b n0 : Nat) : narrow ty (mg_cv b n0 v) = mg_cv b n0 v ∧ fits ty (mg_cv b n0 v) = true := by
  unfold mg_fit at h
  split at h
  · exact ⟨rfl, rfl⟩
  · next x =>
    simp only [Bool.or_eq_true, beq_iff_eq] at h
    rcases h with rfl | rfl <;> exact ⟨rfl, rfl⟩
  · exact ⟨rfl, rfl⟩
  · exact ⟨rfl, rfl⟩
  · cases h
theorem mg_size {p : Program} {l : Launch} {e : Env} {R : Room} {s : State} {m : MethodId} {args : Array Value} {below : List Frame} {meth : Method} {c : Code} {H : Heap} {locs : List Loc} {cells slots : Nat} {Q : State → Prop} {g : JFrame}
    (k : H.size ≤ s.heap.size + cells → W p l e R s m args below meth c H locs cells slots Q g) : W p l e R s m args below meth c H locs cells slots Q g := fun T hT X => k (by rw [← hT]; exact X.heapSize) T hT X
theorem mg_fresh {D : va_G} {b n0 : Nat} {dT : Nat → ClassId} {w : List mg_C} {q : Nat} {c : va_E} {H1 : Heap} (hP : va_P D mg_cl (mg_ws b n0 dT w ++ [(q, c)]) H1) (hD : va_D (fun q => n0 ≤ q) (mg_ws b n0 dT w ++ [(q, c)])) (hs : H1.size ≤ n0 + w.length + 1) : q = n0 + w.length := by
  have hl : (mg_ws b n0 dT w).length = w.length := by unfold mg_ws; rw [List.length_mapIdx]
  have hg : (mg_ws b n0 dT w ++ [(q, c)])[w.length]? = some (q, c) := by rw [List.getElem?_append_right (by omega), hl, Nat.sub_self]; rfl
  have h1 := (hP _ _ hg).lt
  have h2 : n0 ≤ q := hD.2 _ _ hg
  have h1 : q < H1.size := h1
  by_cases hq : q - n0 < w.length
  · have h3 : (mg_ws b n0 dT w ++ [(q, c)])[q - n0]? = some (n0 + (q - n0), mg_cc b n0 dT w[q - n0]) := by
      rw [List.getElem?_append_left (by omega)]
      exact mg_ws_get (List.getElem?_eq_getElem hq)
    have h4 := hD.1 _ _ _ _ h3 hg (by show n0 + (q - n0) = q; omega)
    omega
  · omega
theorem mg_in {i : Int32} {n : Nat} (h : ¬ (i < 0 ∨ n ≤ i.toNatClampNeg)) : vp_in i n := h
theorem mg_m1 : mg_mem (.instanceMethod Lib.objectInit) = true := by decide +kernel
theorem mg_m2 : mg_mem (.code Lib.objectInit ⟨#[0xb1]⟩ 1 none) = true := by decide +kernel
theorem mg_m3 : mg_mem (.static Lib.Math.max.name) = true := by decide +kernel
theorem mg_m4 : mg_mem (.static Lib.Math.min.name) = true := by decide +kernel
theorem mg_m5 : mg_mem (.initialized "java/lang/Math") = true := by decide +kernel
theorem mg_m6 : mg_mem (.code Lib.Math.max.name Lib.Math.max.code 2 (some .int)) = true := by decide +kernel
theorem mg_m7 : mg_mem (.code Lib.Math.min.name Lib.Math.min.code 2 (some .int)) = true := by decide +kernel
theorem mg_m8 : mg_mem (.native arraycopyName) = true := by decide +kernel
theorem mg_m9 : mg_mem (.static arraycopyName) = true := by decide +kernel
theorem mg_m10 : mg_mem (.initialized "java/lang/System") = true := by decide +kernel
theorem mg_m11 : mg_mem (.arrayClass .int) = true := by decide +kernel
theorem mg_m12 : mg_mem (.arrayClass .char) = true := by decide +kernel
theorem mg_m13 : mg_mem (.arrayClass .long) = true := by decide +kernel
theorem mg_m14 : mg_mem (.arrayClass .double) = true := by decide +kernel
theorem mg_Tb.useM {s : State} (h : mg_Tb s) {w : Jvm.Cond} (hp : mg_mem w = true) (args : Array Value) : w.before args s = true := by
  unfold mg_mem at hp
  simp only [Bool.and_eq_true, decide_eq_true_eq] at hp
  obtain ⟨p, hp1⟩ := List.getElem?_of_mem hp.1
  exact h.use (p := p) (by unfold mg_hasw; rw [hp1, hp.2]; simp) args
theorem mg_arrw {s : State} (h : mg_Tb s) {t : Nat} (ht : t < 4) (args : Array Value) : (Cond.arrayClass (mg_aty t)).before args s = true := by
  match t, ht with
  | 0, _ => exact h.useM mg_m11 args
  | 1, _ => exact h.useM mg_m12 args
  | 2, _ => exact h.useM mg_m13 args
  | 3, _ => exact h.useM mg_m14 args
theorem mg_tys_at {dT : Nat → ClassId} {t : Nat} (ht : t < 4) : (mg_tys dT)[t]? = some (dT t, mg_aty t) := by
  match t, ht with
  | 0, _ => rfl
  | 1, _ => rfl
  | 2, _ => rfl
  | 3, _ => rfl
theorem mg_arr_one {s : State} {c1 c2 : ClassId} {t : Nat} (ht : t < 4) (h1 : va_RA s c1 (mg_aty t)) (h2 : va_RA s c2 (mg_aty t)) : c1 = c2 := by
  match t, ht, h1, h2 with
  | 0, _, h1, h2 => exact Option.some.inj (Eq.trans (Eq.symm h1) h2)
  | 1, _, h1, h2 => exact Option.some.inj (Eq.trans (Eq.symm h1) h2)
  | 2, _, h1, h2 => exact Option.some.inj (Eq.trans (Eq.symm h1) h2)
  | 3, _, h1, h2 => exact Option.some.inj (Eq.trans (Eq.symm h1) h2)
theorem mg_zero_ok {t N : Nat} {z : vp_A} (h : mg_zero t N = some z) (cA : ClassId) : vp_cell cA z = arrV cA N (fun _ => defaultValue (mg_aty t)) := by
  unfold mg_zero at h
  split at h
  · cases h; rfl
  · cases h; rfl
  · cases h; rfl
  · cases h; rfl
  · cases h
set_option maxRecDepth 100000 in
set_option maxHeartbeats 4000000 in
theorem mg_step_sound {p : Program} {l : Launch} {e : Env} {R : Room} {s : State} {m : MethodId} {args : Array Value} {below : List Frame} {meth : Method} {c : Code} {Q : State → Prop} {b n0 : Nat} {dT : Nat → ClassId} {D : va_G} {sc : mg_Sc} {mi c0 z0 pc : Nat}
    (X : mg_X p l s m meth c mi) (V : mg_V b n0 dT D sc c0 s) {ins : Instr} {len : Nat} {o : List Nat} (hchk : mg_chk mi (pc, ins, len, o) = true) {loc : mg_L} {st : List Value} {w : mg_S} {pc' : Nat} {loc' : mg_L} {st' : List Value} {w' : mg_S}
    (hs : mg_step sc (pc, ins, len, o) loc st w = some (pc', loc', st', w')) (hRf : 1 ≤ R.frames) (hRl : 100 ≤ R.locals) (hRc : w'.2.1 ≤ c0 + R.cells) (hRz : w'.2.2 ≤ z0 + R.slots)
    (k : mg_K p l e R s m args below meth c Q b n0 dT D (mg_mlen mi) c0 z0 pc' loc' st' w') : mg_K p l e R s m args below meth c Q b n0 dT D (mg_mlen mi) c0 z0 pc loc st w := by
  obtain ⟨hx, hb, hml, hown, hret, hlocks, hname, htab, hnt⟩ := X
  obtain ⟨hTb, hK, hstr, hnc, hZU, hZN, hXs, hbn, hnh, hup⟩ := V
  obtain ⟨hd1, hd2, hrest⟩ := mg_chk_at hchk
  have hbA : ¬ (fun q : Nat => n0 ≤ q) b := Nat.not_le.mpr hbn
  have hbl : b < s.heap.size := Nat.lt_of_lt_of_le hbn hnh
  have hA : ∀ q : Nat, s.heap.size ≤ q → (fun q : Nat => n0 ≤ q) q := fun q h => Nat.le_trans hnh h
  intro H locs ls hW hS hL h1 h2
  have hP := hW.1
  have hD := mg_ws_D (b := b) (n0 := n0) (dT := dT) w.1
  cases ins with
  | iconst n =>
    have hd := hd1 rfl
    cases hs
    exact lv_iconst hx hb hd rfl (k H locs ls hW hS hL h1 h2)
  | bipush n =>
    have hd := hd1 rfl
    cases hs
    exact lv_bipush hx hb hd rfl (k H locs ls hW hS hL h1 h2)
  | sipush n =>
    have hd := hd1 rfl
    cases hs
    exact lv_sipush hx hb hd rfl (k H locs ls hW hS hL h1 h2)
  | ldc j =>
    have hd := hd1 rfl
    unfold mg_step at hs
    dsimp only at hs
    split at hs
    · cases hs
      exact lv_ldc hx hb hown (hTb.useM hrest args) hd (k H locs ls hW hS hL h1 h2)
    · cases hs
  | ldc_w j =>
    have hd := hd1 rfl
    unfold mg_step at hs
    dsimp only at hs
    split at hs
    · cases hs
      exact lv_ldcw hx hb hown (hTb.useM hrest args) hd (k H locs ls hW hS hL h1 h2)
    · cases hs
  | fconst f =>
    have hd := hd1 rfl
    match f, hs, hd with
    | 0, hs, hd =>
      cases hs
      exact lv_fconst0 hx hb hd (k H locs ls hW hS hL h1 h2)
    | 1, hs, _ => cases hs
    | 2, hs, _ => cases hs
  | dconst f =>
    have hd := hd1 rfl
    match f, hs, hd with
    | 0, hs, hd =>
      cases hs
      exact lv_dconst0 hx hb hd (k H locs ls hW hS hL h1 h2)
    | 1, hs, _ => cases hs
  | iload i =>
    have hd := hd1 rfl
    unfold mg_step at hs
    dsimp only at hs
    obtain ⟨v, hv, he⟩ := Option.map_eq_some_iff.mp hs
    obtain ⟨x, rfl, hl⟩ := mg_ldI_spec hv
    cases he
    exact lv_iload hx hb hd (hL.2.2.2 _ _ hl) (k H locs ls hW hS hL h1 h2)
  | iload_n i =>
    have hd := hd1 rfl
    unfold mg_step at hs
    dsimp only at hs
    obtain ⟨v, hv, he⟩ := Option.map_eq_some_iff.mp hs
    obtain ⟨x, rfl, hl⟩ := mg_ldI_spec hv
    cases he
    exact lv_iload_n hx hb hd rfl (hL.2.2.2 _ _ hl) (k H locs ls hW hS hL h1 h2)
  | aload i =>
    have hd := hd1 rfl
    unfold mg_step at hs
    dsimp only at hs
    obtain ⟨v, hv, he⟩ := Option.map_eq_some_iff.mp hs
    obtain ⟨x, rfl, hl⟩ := mg_ldA_spec hv
    cases he
    exact lv_aload hx hb hd (hL.2.2.2 _ _ hl) (k H locs ls hW hS hL h1 h2)
  | aload_n i =>
    have hd := hd1 rfl
    unfold mg_step at hs
    dsimp only at hs
    obtain ⟨v, hv, he⟩ := Option.map_eq_some_iff.mp hs
    obtain ⟨x, rfl, hl⟩ := mg_ldA_spec hv
    cases he
    exact lv_aload_n hx hb hd rfl (hL.2.2.2 _ _ hl) (k H locs ls hW hS hL h1 h2)
  | fload i =>
    have hd := hd1 rfl
    unfold mg_step at hs
    dsimp only at hs
    obtain ⟨v, hv, he⟩ := Option.map_eq_some_iff.mp hs
    obtain ⟨x, rfl, hl⟩ := mg_ldF_spec hv
    cases he
    exact lv_fload hx hb hd (hL.2.2.2 _ _ hl) (k H locs ls hW hS hL h1 h2)
  | dload i =>
    have hd := hd1 rfl
    unfold mg_step at hs
    dsimp only at hs
    obtain ⟨v, hv, he⟩ := Option.map_eq_some_iff.mp hs
    obtain ⟨x, rfl, hl⟩ := mg_ldD_spec hv
    cases he
    exact lv_dload hx hb hd (hL.2.2.2 _ _ hl) (k H locs ls hW hS hL h1 h2)
  | istore i =>
    have hd := hd1 rfl
    unfold mg_step at hs
    dsimp only at hs
    split at hs
    · next x r =>
      split at hs
      · next hi =>
        cases hs
        exact lv_istore (lv := mg_lv b n0 loc) hx hb hd hL.has (Nat.lt_of_lt_of_le hi hL.2.2.1) rfl (fun ls' h' => k H locs ls' hW hS (hL.st1 (v := .int x) h') h1 h2)
      · cases hs
    · cases hs
  | istore_n i =>
    have hd := hd1 rfl
    unfold mg_step at hs
    dsimp only at hs
    split at hs
    · next x r =>
      split at hs
      · next hi =>
        cases hs
        exact lv_istore_n (lv := mg_lv b n0 loc) hx hb hd rfl hL.has (Nat.lt_of_lt_of_le hi hL.2.2.1) rfl (fun ls' h' => k H locs ls' hW hS (hL.st1 (v := .int x) h') h1 h2)
      · cases hs
    · cases hs
  | astore i =>
    have hd := hd1 rfl
    unfold mg_step at hs
    dsimp only at hs
    split at hs
    · next x r =>
      split at hs
      · next hi =>
        cases hs
        exact lv_astore (lv := mg_lv b n0 loc) hx hb hd hL.has (Nat.lt_of_lt_of_le hi hL.2.2.1) rfl (fun ls' h' => k H locs ls' hW hS (hL.st1 (v := .ref x) h') h1 h2)
      · cases hs
    · cases hs
  | astore_n i =>
    have hd := hd1 rfl
    unfold mg_step at hs
    dsimp only at hs
    split at hs
    · next x r =>
      split at hs
      · next hi =>
        cases hs
        exact lv_astore_n (lv := mg_lv b n0 loc) hx hb hd rfl hL.has (Nat.lt_of_lt_of_le hi hL.2.2.1) rfl (fun ls' h' => k H locs ls' hW hS (hL.st1 (v := .ref x) h') h1 h2)
      · cases hs
    · cases hs
  | fstore i =>
    have hd := hd1 rfl
    unfold mg_step at hs
    dsimp only at hs
    split at hs
    · next x r =>
      split at hs
      · next hi =>
        cases hs
        exact lv_fstore (lv := mg_lv b n0 loc) hx hb hd hL.has (Nat.lt_of_lt_of_le hi hL.2.2.1) rfl (fun ls' h' => k H locs ls' hW hS (hL.st1 (v := .float x) h') h1 h2)
      · cases hs
    · cases hs
  | dstore i =>
    have hd := hd1 rfl
    unfold mg_step at hs
    dsimp only at hs
    split at hs
    · next x r =>
      split at hs
      · next hi =>
        cases hs
        exact lv_dstore (lv := mg_lv b n0 loc) hx hb hd hL.has (Nat.lt_of_lt_of_le hi hL.2.2.1) rfl (fun ls' h' => k H locs ls' hW hS (hL.st2 (v := .double x) h') h1 h2)
      · cases hs
    · cases hs
  | iinc i n =>
    have hd := hd1 rfl
    unfold mg_step at hs
    dsimp only at hs
    split at hs
    · next x hxl =>
      cases hs
      have e9 : ((i, Value.int x) :: mg_lv b n0 loc).filter (fun q => !(q.1 == i) && !(q.1 + 1 == i && q.2.category == 2)) = (mg_lv b n0 loc).filter (fun q => !(q.1 == i) && !(q.1 + 1 == i && q.2.category == 2)) := List.filter_cons_of_neg (by simp)
      have hh : lv_has ls (mg_mlen mi) ((i, Value.int x) :: mg_lv b n0 loc) := ⟨hL.1, hL.2.1, fun q hq => by
        rcases List.mem_cons.mp hq with rfl | hq
        · exact hL.2.2.2 _ _ hxl
        · exact hL.has.2.2 q hq⟩
      exact lv_iinc (lv := (i, Value.int x) :: mg_lv b n0 loc) (k := 0) hx hb hd hh rfl rfl (Nat.lt_of_lt_of_le (List.getElem?_eq_some_iff.mp hxl).1 hL.2.2.1) (congrArg (List.cons (i, Value.int (x + Int32.ofInt n))) e9) (fun ls' h' => k H locs ls' hW hS (hL.st1 (v := .int (x + Int32.ofInt n)) h') h1 h2)
    · cases hs
  | iadd =>
    have hd := hd1 rfl
    unfold mg_step at hs
    dsimp only at hs
    split at hs
    · cases hs
      exact lv_iadd hx hb hd (k H locs ls hW hS hL h1 h2)
    · cases hs
  | isub =>
    have hd := hd1 rfl
    unfold mg_step at hs
    dsimp only at hs
    split at hs
    · cases hs
      exact lv_isub hx hb hd (k H locs ls hW hS hL h1 h2)
    · cases hs
  | imul =>
    have hd := hd1 rfl
    unfold mg_step at hs
    dsimp only at hs
    split at hs
    · cases hs
      exact lv_imul hx hb hd (k H locs ls hW hS hL h1 h2)
    · cases hs
  | iand =>
    have hd := hd1 rfl
    unfold mg_step at hs
    dsimp only at hs
    split at hs
    · cases hs
      exact lv_iand hx hb hd (k H locs ls hW hS hL h1 h2)
    · cases hs
  | ior =>
    have hd := hd1 rfl
    unfold mg_step at hs
    dsimp only at hs
    split at hs
    · cases hs
      exact lv_ior hx hb hd (k H locs ls hW hS hL h1 h2)
    · cases hs
  | idiv =>
    have hd := hd1 rfl
    unfold mg_step at hs
    dsimp only at hs
    split at hs
    · split at hs
      · cases hs
      · next hne =>
        cases hs
        exact lv_idiv hx hb hd hne (k H locs ls hW hS hL h1 h2)
    · cases hs
  | irem =>
    have hd := hd1 rfl
    unfold mg_step at hs
    dsimp only at hs
    split at hs
    · split at hs
      · cases hs
      · next hne =>
        cases hs
        exact lv_irem hx hb hd hne (k H locs ls hW hS hL h1 h2)
    · cases hs
  | ineg =>
    have hd := hd1 rfl
    unfold mg_step at hs
    dsimp only at hs
    split at hs
    · cases hs
      exact lv_ineg hx hb hd  (k H locs ls hW hS hL h1 h2)
    · cases hs
  | i2l =>
    have hd := hd1 rfl
    unfold mg_step at hs
    dsimp only at hs
    split at hs
    · cases hs
      exact lv_i2l hx hb hd rfl (k H locs ls hW hS hL h1 h2)
    · cases hs
  | i2c =>
    have hd := hd1 rfl
    unfold mg_step at hs
    dsimp only at hs
    split at hs
    · cases hs
      exact lv_i2c hx hb hd rfl (k H locs ls hW hS hL h1 h2)
    · cases hs
  | i2f =>
    have hd := hd1 rfl
    unfold mg_step at hs
    dsimp only at hs
    split at hs
    · cases hs
      exact lv_i2f hx hb hd  (k H locs ls hW hS hL h1 h2)
    · cases hs
  | i2d =>
    have hd := hd1 rfl
    unfold mg_step at hs
    dsimp only at hs
    split at hs
    · cases hs
      exact lv_i2d hx hb hd  (k H locs ls hW hS hL h1 h2)
    · cases hs
  | lcmp =>
    have hd := hd1 rfl
    unfold mg_step at hs
    dsimp only at hs
    split at hs
    · cases hs
      exact W.lcmp hx hb hd  (k H locs ls hW hS hL h1 h2)
    · cases hs
  | fcmp op =>
    have hd := hd1 rfl
    unfold mg_step at hs
    dsimp only at hs
    split at hs
    · cases hs
      exact lv_fcmp hx hb hd  (k H locs ls hW hS hL h1 h2)
    · cases hs
  | dcmp op =>
    have hd := hd1 rfl
    unfold mg_step at hs
    dsimp only at hs
    split at hs
    · cases hs
      exact lv_dcmp hx hb hd  (k H locs ls hW hS hL h1 h2)
    · cases hs
  | f2d =>
    have hd := hd1 rfl
    unfold mg_step at hs
    dsimp only at hs
    split at hs
    · split at hs
      · next hne =>
        cases hs
        exact lv_f2d hx hb hd hne (k H locs ls hW hS hL h1 h2)
      · cases hs
    · cases hs
  | fdiv =>
    have hd := hd1 rfl
    unfold mg_step at hs
    dsimp only at hs
    split at hs
    · split at hs
      · next hne =>
        cases hs
        exact lv_fdiv hx hb hd hne (k H locs ls hW hS hL h1 h2)
      · cases hs
    · cases hs
  | ddiv =>
    have hd := hd1 rfl
    unfold mg_step at hs
    dsimp only at hs
    split at hs
    · split at hs
      · next hne =>
        cases hs
        exact lv_ddiv hx hb hd hne (k H locs ls hW hS hL h1 h2)
      · cases hs
    · cases hs
  | dup =>
    have hd := hd1 rfl
    unfold mg_step at hs
    dsimp only at hs
    split at hs
    · cases hs
      exact lv_dup hx hb hd rfl (k H locs ls hW hS hL h1 h2)
    · cases hs
      exact lv_dup hx hb hd rfl (k H locs ls hW hS hL h1 h2)
    · cases hs
  | dup2 =>
    have hd := hd1 rfl
    unfold mg_step at hs
    dsimp only at hs
    split at hs
    · cases hs
      exact lv_dup2_11 hx hb hd rfl rfl (k H locs ls hW hS hL h1 h2)
    · cases hs
      exact lv_dup2_11 hx hb hd rfl rfl (k H locs ls hW hS hL h1 h2)
    · cases hs
  | pop =>
    have hd := hd1 rfl
    unfold mg_step at hs
    dsimp only at hs
    split at hs
    · cases hs
      exact lv_pop hx hb hd rfl (k H locs ls hW hS hL h1 h2)
    · cases hs
      exact lv_pop hx hb hd rfl (k H locs ls hW hS hL h1 h2)
    · cases hs
  | goto off =>
    have hd := hd1 rfl
    unfold mg_step at hs
    dsimp only at hs
    split at hs
    · cases hs
      exact lv_goto hx hb hd (of_decide_eq_true hrest) (k H locs ls hW hS hL h1 h2)
    · cases hs
  | ifCond cc off =>
    have hd := hd1 rfl
    unfold mg_step at hs
    dsimp only at hs
    split at hs
    · cases cc
      · unfold mg_br at hs
        cases hs
        exact lv_if_eq hx hb hd (of_decide_eq_true hrest) (fun hc => by have k9 := k H locs ls hW hS hL h1 h2; rw [if_pos hc] at k9; exact k9) (fun hc => by have k9 := k H locs ls hW hS hL h1 h2; rw [if_neg hc] at k9; exact k9)
      · unfold mg_br at hs
        cases hs
        exact lv_if_ne hx hb hd (of_decide_eq_true hrest) (fun hc => by have k9 := k H locs ls hW hS hL h1 h2; rw [if_neg hc] at k9; exact k9) (fun hc => by have k9 := k H locs ls hW hS hL h1 h2; rw [if_pos hc] at k9; exact k9)
      · unfold mg_br at hs
        cases hs
        exact lv_if_lt hx hb hd (of_decide_eq_true hrest) (fun hc => by have k9 := k H locs ls hW hS hL h1 h2; rw [if_pos hc] at k9; exact k9) (fun hc => by have k9 := k H locs ls hW hS hL h1 h2; rw [if_neg hc] at k9; exact k9)
      · unfold mg_br at hs
        cases hs
        exact lv_if_ge hx hb hd (of_decide_eq_true hrest) (fun hc => by have k9 := k H locs ls hW hS hL h1 h2; rw [if_pos hc] at k9; exact k9) (fun hc => by have k9 := k H locs ls hW hS hL h1 h2; rw [if_neg hc] at k9; exact k9)
      · unfold mg_br at hs
        cases hs
        exact lv_if_gt hx hb hd (of_decide_eq_true hrest) (fun hc => by have k9 := k H locs ls hW hS hL h1 h2; rw [if_pos hc] at k9; exact k9) (fun hc => by have k9 := k H locs ls hW hS hL h1 h2; rw [if_neg hc] at k9; exact k9)
      · unfold mg_br at hs
        cases hs
        exact lv_if_le hx hb hd (of_decide_eq_true hrest) (fun hc => by have k9 := k H locs ls hW hS hL h1 h2; rw [if_pos hc] at k9; exact k9) (fun hc => by have k9 := k H locs ls hW hS hL h1 h2; rw [if_neg hc] at k9; exact k9)
    · cases hs
  | if_icmp cc off =>
    have hd := hd1 rfl
    unfold mg_step at hs
    dsimp only at hs
    split at hs
    · cases cc
      · unfold mg_br at hs
        cases hs
        exact lv_icmp_eq hx hb hd (of_decide_eq_true hrest) (fun hc => by have k9 := k H locs ls hW hS hL h1 h2; rw [if_pos hc] at k9; exact k9) (fun hc => by have k9 := k H locs ls hW hS hL h1 h2; rw [if_neg hc] at k9; exact k9)
      · unfold mg_br at hs
        cases hs
        exact lv_icmp_ne hx hb hd (of_decide_eq_true hrest) (fun hc => by have k9 := k H locs ls hW hS hL h1 h2; rw [if_neg hc] at k9; exact k9) (fun hc => by have k9 := k H locs ls hW hS hL h1 h2; rw [if_pos hc] at k9; exact k9)
      · unfold mg_br at hs
        cases hs
        exact lv_icmp_lt hx hb hd (of_decide_eq_true hrest) (fun hc => by have k9 := k H locs ls hW hS hL h1 h2; rw [if_pos hc] at k9; exact k9) (fun hc => by have k9 := k H locs ls hW hS hL h1 h2; rw [if_neg hc] at k9; exact k9)
      · unfold mg_br at hs
        cases hs
        exact lv_icmp_ge hx hb hd (of_decide_eq_true hrest) (fun hc => by have k9 := k H locs ls hW hS hL h1 h2; rw [if_pos hc] at k9; exact k9) (fun hc => by have k9 := k H locs ls hW hS hL h1 h2; rw [if_neg hc] at k9; exact k9)
      · unfold mg_br at hs
        cases hs
        exact lv_icmp_gt hx hb hd (of_decide_eq_true hrest) (fun hc => by have k9 := k H locs ls hW hS hL h1 h2; rw [if_pos hc] at k9; exact k9) (fun hc => by have k9 := k H locs ls hW hS hL h1 h2; rw [if_neg hc] at k9; exact k9)
      · unfold mg_br at hs
        cases hs
        exact lv_icmp_le hx hb hd (of_decide_eq_true hrest) (fun hc => by have k9 := k H locs ls hW hS hL h1 h2; rw [if_pos hc] at k9; exact k9) (fun hc => by have k9 := k H locs ls hW hS hL h1 h2; rw [if_neg hc] at k9; exact k9)
    · cases hs
  | tableswitch df lo hi offs =>
    unfold mg_step at hs
    dsimp only at hs
    split at hs
    · next d ts x r =>
      have hr2 : (decide ((pc : Int) + df = (d : Int)) && decide (offs.toList.map (fun x => (pc : Int) + x) = ts.map Int.ofNat)) = true := hrest
      simp only [Bool.and_eq_true, decide_eq_true_eq] at hr2
      split at hs
      · next hout =>
        cases hs
        exact lv_tableOut hx hb hd2 hout hr2.1 (k H locs ls hW hS hL h1 h2)
      · next hin =>
        obtain ⟨t, ht, he⟩ := Option.map_eq_some_iff.mp hs
        cases he
        have h5 : (offs.toList.map (fun x => (pc : Int) + x))[(x.toInt - lo).toNat]? = some (Int.ofNat pc') := by
          rw [hr2.2, List.getElem?_map, ht]; rfl
        rw [List.getElem?_map] at h5
        obtain ⟨off, ho, he⟩ := Option.map_eq_some_iff.mp h5
        rw [Array.getElem?_toList] at ho
        exact lv_tableIn hx hb hd2 (fun z => hin (Or.inl z)) (fun z => hin (Or.inr z)) ho he (k H locs ls hW hS hL h1 h2)
    · cases hs
  | getfield idx =>
    have hd := hd1 rfl
    unfold mg_step at hs
    dsimp only at hs
    split at hs
    · next ci kf o9 a r =>
      split at hs
      · next c9 fs hcell =>
        split at hs
        · next hc =>
          subst hc
          obtain ⟨v, hv, he⟩ := Option.map_eq_some_iff.mp hs
          cases he
          have he9 := mg_ws_get (b := b) (n0 := n0) (dT := dT) hcell
          have hv9 : (fs.map (mg_cv b n0))[kf]? = some (mg_cv b n0 v) := by rw [List.getElem?_map, hv]; rfl
          unfold mg_rest at hrest
          dsimp only at hrest
          split at hrest
          · next q1 q2 q3 q4 heq =>
            cases heq
            split at hrest
            · next C T N hcl =>
              simp only [Bool.and_eq_true, decide_eq_true_eq] at hrest
              obtain ⟨hkN, hwd⟩ := hrest
              obtain ⟨hu1, hu2, hu3⟩ := mg_clw hcl
              split at hwd
              · exact va_get (D := D) (C := C) (T := T) (N := N) hx hb (hTb.mem hu1 args) (fun _ h => h) hown hK hP a he9 hcl kf hkN (hTb.use hwd args) (fun _ h9 => h9) hv9 hd (k H locs ls hW hS hL h1 h2)
              · exact va_getN (D := D) (C := C) (T := T) (N := N) hx hb (hTb.mem hu1 args) (fun _ h => h) hown hK hP a he9 hcl kf hkN (hTb.use hwd args) (fun _ h9 => h9) hv9 hd (k H locs ls hW hS hL h1 h2)
            · cases hrest
          · cases hrest
        · cases hs
      · cases hs
    · cases hs
  | putfield idx =>
    have hd := hd1 rfl
    unfold mg_step at hs
    dsimp only at hs
    split at hs
    · next ci kf o9 v a r =>
      split at hs
      · next c9 fs hcell =>
        split at hs
        · next hc =>
          obtain ⟨hc, hkl, hfit⟩ := hc
          subst hc
          cases hs
          have he9 := mg_ws_get (b := b) (n0 := n0) (dT := dT) hcell
          obtain ⟨f1, f2⟩ := mg_fit_ok hfit b n0
          have e8 : (mg_ws b n0 dT w.1).set a (n0 + a, .inr (c9, (fs.map (mg_cv b n0)).set kf (mg_cv b n0 v))) = mg_ws b n0 dT (w.1.set a (.inr (c9, fs.set kf v))) := by
            rw [← mg_ws_set]
            show _ = (mg_ws b n0 dT w.1).set a (n0 + a, Sum.inr (c9, (fs.set kf v).map (mg_cv b n0)))
            rw [List.map_set]
          have kk : ∀ (H1 : Heap) (locs1 : List Loc), va_P D mg_cl ((mg_ws b n0 dT w.1).set a (n0 + a, .inr (c9, (fs.map (mg_cv b n0)).set kf (mg_cv b n0 v)))) H1 → va_D (fun q => n0 ≤ q) ((mg_ws b n0 dT w.1).set a (n0 + a, .inr (c9, (fs.map (mg_cv b n0)).set kf (mg_cv b n0 v)))) → va_S (fun q => n0 ≤ q) s.heap H1 locs1 → W p l e R s m args below meth c H1 locs1 (w.2.1 - c0) (w.2.2 - z0) Q (F0 m (pc + 3) ls (st'.map (mg_cv b n0))) := by
            intro H1 locs1 p1 p2 p3
            rw [e8] at p1
            exact k H1 locs1 ls ⟨p1, by show (w.1.set a _).length ≤ _; rw [List.length_set]; exact hW.2⟩ p3 hL h1 h2
          have hl9 : kf < (fs.map (mg_cv b n0)).length := by rw [List.length_map]; exact hkl
          unfold mg_rest at hrest
          dsimp only at hrest
          split at hrest
          · next q1 q2 q3 q4 heq =>
            cases heq
            split at hrest
            · next C T N hcl =>
              simp only [Bool.and_eq_true, decide_eq_true_eq] at hrest
              obtain ⟨hkN, hwd⟩ := hrest
              obtain ⟨hu1, hu2, hu3⟩ := mg_clw hcl
              split at hwd
              · simp only [Bool.and_eq_true, Bool.or_eq_true, beq_iff_eq, decide_eq_true_eq] at hwd
                obtain ⟨hwd, hfin | ⟨hin, hde⟩⟩ := hwd
                · exact va_put (D := D) (C := C) (T := T) (N := N) hx hb (hTb.mem hu1 args) (fun _ h => h) (mg_ty c9) hu2 hu3 hown hK hP hD hS a he9 hcl kf hkN (hTb.use hwd args) (fun _ h9 => h9) hfin (hu2 kf hkN) f1 f2 hl9 hd kk
                · by_cases hfin : (T kf).2.2.2 = false
                  · exact va_put (D := D) (C := C) (T := T) (N := N) hx hb (hTb.mem hu1 args) (fun _ h => h) (mg_ty c9) hu2 hu3 hown hK hP hD hS a he9 hcl kf hkN (hTb.use hwd args) (fun _ h9 => h9) hfin (hu2 kf hkN) f1 f2 hl9 hd kk
                  · exact va_putF (D := D) (C := C) (T := T) (N := N) hx hb (hTb.mem hu1 args) (fun _ h => h) (mg_ty c9) hu2 hu3 hown hK hP hD hS a he9 hcl kf hkN (hTb.use hwd args) (fun _ h9 => h9) (by rw [Bool.not_eq_false] at hfin; exact hfin) (hname.trans hin) hde (hu2 kf hkN) f1 f2 hl9 hd kk
              · simp only [Bool.and_eq_true, beq_iff_eq] at hwd
                exact va_putN (D := D) (C := C) (T := T) (N := N) hx hb (hTb.mem hu1 args) (fun _ h => h) (mg_ty c9) hu2 hu3 hown hK hP hD hS a he9 hcl kf hkN (hTb.use hwd.1 args) (fun _ h9 => h9) hwd.2 (hu2 kf hkN) f1 f2 hl9 hd kk
            · cases hrest
          · cases hrest
        · cases hs
      · cases hs
    · cases hs
  | iaload =>
    have hd := hd1 rfl
    unfold mg_step at hs
    dsimp only at hs
    split at hs
    · next i a r =>
      obtain ⟨v, hv, he⟩ := Option.map_eq_some_iff.mp hs
      cases he
      unfold mg_iald at hv
      split at hv
      · split at hv
        · cases hv
        · next hin =>
          cases hv
          exact va_sld (A := fun q => n0 ≤ q) hx hb hXs hbl hbA hS hin hd (k H locs ls hW hS hL h1 h2)
      · next a =>
        split at hv
        · next n f hcell =>
          split at hv
          · cases hv
          · next hin =>
            cases hv
            exact va_iald (D := D) hx hb hK hP a 0 (mg_ws_get (b := b) (n0 := n0) (dT := dT) hcell) (mg_tys_at (t := 0) (by decide)) hin hd (k H locs ls hW hS hL h1 h2)
        · cases hv
    · cases hs
  | caload =>
    have hd := hd1 rfl
    unfold mg_step at hs
    dsimp only at hs
    split at hs
    · next i a r =>
      split at hs
      · next n f hcell =>
        split at hs
        · cases hs
        · next hin =>
          cases hs
          exact va_cald (D := D) hx hb hK hP a 1 (mg_ws_get (b := b) (n0 := n0) (dT := dT) hcell) (mg_tys_at (t := 1) (by decide)) hin hd (k H locs ls hW hS hL h1 h2)
      · cases hs
    · cases hs
  | laload =>
    have hd := hd1 rfl
    unfold mg_step at hs
    dsimp only at hs
    split at hs
    · next i a r =>
      split at hs
      · next n f hcell =>
        split at hs
        · cases hs
        · next hin =>
          cases hs
          exact va_lald (D := D) hx hb hK hP a 2 (mg_ws_get (b := b) (n0 := n0) (dT := dT) hcell) (mg_tys_at (t := 2) (by decide)) hin hd (k H locs ls hW hS hL h1 h2)
      · cases hs
    · cases hs
  | daload =>
    have hd := hd1 rfl
    unfold mg_step at hs
    dsimp only at hs
    split at hs
    · next i a r =>
      split at hs
      · next n f hcell =>
        split at hs
        · cases hs
        · next hin =>
          cases hs
          exact va_dald (D := D) hx hb hK hP a 3 (mg_ws_get (b := b) (n0 := n0) (dT := dT) hcell) (mg_tys_at (t := 3) (by decide)) hin hd (k H locs ls hW hS hL h1 h2)
      · cases hs
    · cases hs
  | iastore =>
    have hd := hd1 rfl
    unfold mg_step at hs
    dsimp only at hs
    split at hs
    · next x i a r =>
      split at hs
      · next n f hcell =>
        split at hs
        · cases hs
        · next hin =>
          cases hs
          refine va_iast (D := D) hx hb hK hP hD hS a 0 (mg_ws_get (b := b) (n0 := n0) (dT := dT) hcell) (mg_tys_at (t := 0) (by decide)) hin hd (fun H1 locs1 p1 p2 p3 => ?_)
          have e8 := mg_ws_set (b := b) (n0 := n0) (dT := dT) w.1 a (.inl (0, n, .inl (upd f i.toNatClampNeg x)))
          have p9 : va_P D mg_cl (mg_ws b n0 dT (w.1.set a (.inl (0, n, .inl (upd f i.toNatClampNeg x))))) H1 := by rw [← e8]; exact p1
          exact k H1 locs1 ls ⟨p9, by show (w.1.set a _).length ≤ _; rw [List.length_set]; exact hW.2⟩ p3 hL h1 h2
      · cases hs
    · cases hs
  | castore =>
    have hd := hd1 rfl
    unfold mg_step at hs
    dsimp only at hs
    split at hs
    · next x i a r =>
      split at hs
      · next n f hcell =>
        split at hs
        · cases hs
        · next hin =>
          cases hs
          refine va_cast (D := D) hx hb hK hP hD hS a 1 (mg_ws_get (b := b) (n0 := n0) (dT := dT) hcell) (mg_tys_at (t := 1) (by decide)) hin hd (fun H1 locs1 p1 p2 p3 => ?_)
          have e8 := mg_ws_set (b := b) (n0 := n0) (dT := dT) w.1 a (.inl (1, n, .inl (upd f i.toNatClampNeg (vp_nar .char x))))
          have p9 : va_P D mg_cl (mg_ws b n0 dT (w.1.set a (.inl (1, n, .inl (upd f i.toNatClampNeg (vp_nar .char x)))))) H1 := by rw [← e8]; exact p1
          exact k H1 locs1 ls ⟨p9, by show (w.1.set a _).length ≤ _; rw [List.length_set]; exact hW.2⟩ p3 hL h1 h2
      · cases hs
    · cases hs
  | lastore =>
    have hd := hd1 rfl
    unfold mg_step at hs
    dsimp only at hs
    split at hs
    · next x i a r =>
      split at hs
      · next n f hcell =>
        split at hs
        · cases hs
        · next hin =>
          cases hs
          refine va_last (D := D) hx hb hK hP hD hS a 2 (mg_ws_get (b := b) (n0 := n0) (dT := dT) hcell) (mg_tys_at (t := 2) (by decide)) hin hd (fun H1 locs1 p1 p2 p3 => ?_)
          have e8 := mg_ws_set (b := b) (n0 := n0) (dT := dT) w.1 a (.inl (2, n, .inr (.inl (vp_updL f i.toNatClampNeg x))))
          have p9 : va_P D mg_cl (mg_ws b n0 dT (w.1.set a (.inl (2, n, .inr (.inl (vp_updL f i.toNatClampNeg x)))))) H1 := by rw [← e8]; exact p1
          exact k H1 locs1 ls ⟨p9, by show (w.1.set a _).length ≤ _; rw [List.length_set]; exact hW.2⟩ p3 hL h1 h2
      · cases hs
    · cases hs
  | dastore =>
    have hd := hd1 rfl
    unfold mg_step at hs
    dsimp only at hs
    split at hs
    · next x i a r =>
      split at hs
      · next n f hcell =>
        split at hs
        · cases hs
        · next hin =>
          cases hs
          refine va_dast (D := D) hx hb hK hP hD hS a 3 (mg_ws_get (b := b) (n0 := n0) (dT := dT) hcell) (mg_tys_at (t := 3) (by decide)) hin hd (fun H1 locs1 p1 p2 p3 => ?_)
          have e8 := mg_ws_set (b := b) (n0 := n0) (dT := dT) w.1 a (.inl (3, n, .inr (.inr (.inr (.inl (vf_upd f i.toNatClampNeg x))))))
          have p9 : va_P D mg_cl (mg_ws b n0 dT (w.1.set a (.inl (3, n, .inr (.inr (.inr (.inl (vf_upd f i.toNatClampNeg x)))))))) H1 := by rw [← e8]; exact p1
          exact k H1 locs1 ls ⟨p9, by show (w.1.set a _).length ≤ _; rw [List.length_set]; exact hW.2⟩ p3 hL h1 h2
      · cases hs
    · cases hs
  | arraylength =>
    have hd := hd1 rfl
    unfold mg_step at hs
    dsimp only at hs
    split at hs
    · next a r =>
      obtain ⟨v, hv, he⟩ := Option.map_eq_some_iff.mp hs
      cases he
      unfold mg_alen at hv
      split at hv
      · cases hv
        exact va_slen (A := fun q => n0 ≤ q) hx hb hXs hbl hbA hS hd (k H locs ls hW hS hL h1 h2)
      · next a =>
        split at hv
        · next x hcell =>
          split at hv
          · next h4 =>
            cases hv
            exact va_alen (D := D) (ty := mg_aty x.1) hx hb hK hP a x.1 (mg_ws_get (b := b) (n0 := n0) (dT := dT) hcell) (mg_tys_at h4) rfl hd (k H locs ls hW hS hL h1 h2)
          · cases hv
        · cases hv
    · cases hs
  | newarray at9 =>
    have hd := hd1 rfl
    unfold mg_step at hs
    dsimp only at hs
    split at hs
    · next t n r =>
      have hr2 : (Nat.blt t 4 && decide (newarray.typeOf at9 = mg_aty t)) = true := hrest
      simp only [Bool.and_eq_true, decide_eq_true_eq] at hr2
      have ht4 : t < 4 := by have := hr2.1; rwa [Nat.blt_eq] at this
      split at hs
      · cases hs
      · next hn9 =>
        obtain ⟨z, hz, he⟩ := Option.map_eq_some_iff.mp hs
        cases he
        have hn1 : ¬ n < 0 := fun q => hn9 (Or.inl q)
        have hn2 : n.toNatClampNeg ≤ 100000 := Nat.le_of_not_lt fun q => hn9 (Or.inr (Or.inl q))
        have hn3 : w.2.1 = w.1.length := Decidable.byContradiction fun q => hn9 (Or.inr (Or.inr q))
        have hcb : componentBytes (mg_aty t) ≤ 8 := by
          match t, ht4 with
          | 0, _ => decide
          | 1, _ => decide
          | 2, _ => decide
          | 3, _ => decide
        refine va_newa (D := D) hx hb (ty := mg_aty t) (by rw [hr2.2]; exact mg_arrw hTb ht4 args) hr2.2 hK hP hD hS hA (mg_zero_ok hz) hn1 rfl (Nat.le_trans (Nat.mul_le_mul hn2 hcb) (by decide)) (by have h5 : w.2.1 + 1 ≤ c0 + R.cells := hRc; omega) (by have h5 : w.2.2 + n.toNatClampNeg ≤ z0 + R.slots := hRz; omega) hd (fun q cA H1 q1 q2 q3 q4 => mg_size fun hz9 => ?_)
        have hcA : cA = dT t := mg_arr_one (s := s) ht4 (q1.2 4 (cA, mg_aty t) rfl).2 (hK.2 t _ (mg_tys_at ht4)).2
        have hq := mg_fresh (c := .inl (cA, z)) (n0 := n0) (b := b) (dT := dT) q2 q3 (by omega)
        subst hcA
        subst hq
        have k9 := k H1 locs ls ⟨by rw [← mg_ws_app]; exact q2, by show (w.1 ++ _).length ≤ _; rw [List.length_append]; show w.1.length + 1 ≤ w.2.1 + 1; omega⟩ q4 hL (by show c0 ≤ w.2.1 + 1; omega) (by show z0 ≤ w.2.2 + n.toNatClampNeg; omega)
        have e1 : w.2.1 + 1 - c0 = w.2.1 - c0 + 1 := by omega
        have e2 : w.2.2 + n.toNatClampNeg - z0 = w.2.2 - z0 + n.toNatClampNeg := by omega
        dsimp only at k9
        rw [e1, e2] at k9
        exact k9
    · cases hs
  | new idx =>
    have hd := hd1 rfl
    unfold mg_step at hs
    dsimp only at hs
    split at hs
    · next ci p9 =>
      split at hs
      · cases hs
      · next hn9 =>
        have hn3 : w.2.1 = w.1.length := Decidable.byContradiction fun q => hn9 q
        obtain ⟨fs, hf, he⟩ := Option.map_eq_some_iff.mp hs
        cases he
        have hr2 : (match mg_cl[ci]? with
          | some (C, _, N) => mg_hasw p9 (.classLink (mg_own mi) idx C) && mg_mem (.instantiable C N) && mg_mem (.initialized C)
          | none => false) = true := hrest
        cases hcl : mg_cl[ci]? with
        | none => rw [hcl] at hr2; cases hr2
        | some qq =>
          obtain ⟨C, T, N⟩ := qq
          rw [hcl] at hr2
          simp only [Bool.and_eq_true] at hr2
          obtain ⟨⟨hw1, hw2⟩, hw3⟩ := hr2
          obtain ⟨hu1, hu2, hu3⟩ := mg_clw hcl
          obtain ⟨g1, g2, g3⟩ := mg_new_ok hcl hf b n0
          refine va_new (D := D) (C := C) (T := T) (N := N) hx hb (hTb.mem hu1 args) (fun _ h => h) (mg_ty ci) hu2 hown (hTb.use hw1 args) (hTb.useM hw2 args) (hTb.useM hw3 args) hK hP hD hS hA hcl g3 (by have h5 : w.2.1 + 1 ≤ c0 + R.cells := hRc; omega) (by have h5 : w.2.2 + fs.length ≤ z0 + R.slots := hRz; have h6 : fs.length = N := g2; omega) hd (fun q H1 q2 q3 q4 => mg_size fun hz9 => ?_)
          have hq := mg_fresh (c := .inr (ci, fs)) (n0 := n0) (b := b) (dT := dT) q2 q3 (by omega)
          subst hq
          have p9 : va_P D mg_cl (mg_ws b n0 dT (w.1 ++ [.inr (ci, fs)])) H1 := by
            rw [← mg_ws_app]
            show va_P D mg_cl (mg_ws b n0 dT w.1 ++ [(n0 + w.1.length, Sum.inr (ci, fs.map (mg_cv b n0)))]) H1
            rw [g1]; exact q2
          have k9 := k H1 locs ls ⟨p9, by show (w.1 ++ _).length ≤ _; rw [List.length_append]; show w.1.length + 1 ≤ w.2.1 + 1; omega⟩ q4 hL (by show c0 ≤ w.2.1 + 1; omega) (by show z0 ≤ w.2.2 + fs.length; omega)
          have e1 : w.2.1 + 1 - c0 = w.2.1 - c0 + 1 := by omega
          have e2 : w.2.2 + fs.length - z0 = w.2.2 - z0 + N := by have h6 : fs.length = N := g2; omega
          dsimp only at k9
          rw [e1, e2] at k9
          exact k9
    · cases hs
  | invokespecial idx =>
    have hd := hd1 rfl
    unfold mg_step at hs
    dsimp only at hs
    split at hs
    · next p9 a r =>
      split at hs
      · next hlen =>
        cases hs
        have hc9 := mg_st_len (st := Value.ref a :: st') (n := 8) hlen
        refine W.objInit hx hb hown (hTb.use hrest args) (hTb.useM mg_m1 args) (hTb.useM mg_m2 args) rfl (by rw [hml]; exact hL.1) rfl hd hRf ?_ ?_
        · show 2 * 0 + ((st'.map (mg_cv b n0)).map fun v => v.category).sum + 12 ≤ R.locals
          rw [mg_st_cat]
          simp only [List.map_cons, List.sum_cons] at hc9
          omega
        · exact W.eq (g2 := F0 m (pc + 3) ls (st'.map (mg_cv b n0))) rfl (k H locs ls hW hS hL h1 h2)
      · cases hs
    · cases hs
  | invokestatic idx =>
    have hd := hd1 rfl
    unfold mg_step at hs
    dsimp only at hs
    split at hs
    · next p9 y x r =>
      split at hs
      · next hlen =>
        cases hs
        have hc9 := mg_st_len (st := r) (n := 8) hlen
        exact va_mmax hx hb (hml.trans hL.1.symm) hown (hTb.use hrest args) (hTb.useM mg_m3 args) (hTb.useM mg_m5 args) (hTb.useM mg_m6 args) hRf (by rw [mg_st_cat]; omega) (by omega) (by omega) hd (k H locs ls hW hS hL h1 h2)
      · cases hs
    · next p9 y x r =>
      split at hs
      · next hlen =>
        cases hs
        have hc9 := mg_st_len (st := r) (n := 8) hlen
        exact va_mmin hx hb (hml.trans hL.1.symm) hown (hTb.use hrest args) (hTb.useM mg_m4 args) (hTb.useM mg_m5 args) (hTb.useM mg_m7 args) hRf (by rw [mg_st_cat]; omega) (by omega) (by omega) hd (k H locs ls hW hS hL h1 h2)
      · cases hs
    · next p9 n dp a1 sp a0 r =>
      split at hs
      · next n0' f n1 g hc0 hc1 =>
        split at hs
        · next hh =>
          obtain ⟨hlen, g1, g2, g3, g4, g5⟩ := hh
          cases hs
          have hc9 := mg_st_len (st := st') (n := 8) hlen
          have hnw : nativeFrameWords "java/lang/System" "arraycopy" 5 = 7 := by decide
          refine va_copyi (D := D) hx hb (hml.trans hL.1.symm) hown (hTb.use hrest args) (hTb.useM mg_m8 args) (hTb.useM mg_m9 args) (hTb.useM mg_m10 args) hK hP hD hS a0 a1 0 0 (mg_ws_get (b := b) (n0 := n0) (dT := dT) hc0) (mg_ws_get (b := b) (n0 := n0) (dT := dT) hc1) (mg_tys_at (t := 0) (by decide)) (mg_tys_at (t := 0) (by decide)) rfl g1 g2 g3 g4 g5 (fun _ _ => rfl) hRf (by rw [mg_st_cat, hnw]; omega) hd (fun H1 locs1 p1 p2 p3 => ?_)
          have e8 := mg_ws_set (b := b) (n0 := n0) (dT := dT) w.1 a1 (.inl (0, n1, .inl (va_cpy f g sp.toNatClampNeg dp.toNatClampNeg n.toNatClampNeg)))
          have p9 : va_P D mg_cl (mg_ws b n0 dT (w.1.set a1 (.inl (0, n1, .inl (va_cpy f g sp.toNatClampNeg dp.toNatClampNeg n.toNatClampNeg))))) H1 := by rw [← e8]; exact p1
          exact k H1 locs1 ls ⟨p9, by show (w.1.set a1 _).length ≤ _; rw [List.length_set]; exact hW.2⟩ p3 hL h1 h2
        · cases hs
      · cases hs
    · cases hs
  | _ => cases hs
end
section
/-! 'throw new E("text")' of the six classes (E's constructor hands on to RuntimeException's by its entry mg_ix E) -/
def mg_atL (own : String) (ic E : Nat) : List Jvm.Cond := Bundle.throwableAtoms ++ Bundle.throwableSAtoms ++ (Bundle.passSAtoms (mg_exc E) "java/lang/RuntimeException" (mg_ix E) (mg_six (mg_ix E)) ++ Bundle.chainSAtoms "java/lang/RuntimeException" ["java/lang/Exception"]) ++
  ([.methodLink own ic (Bundle.initS (mg_exc E)), .instantiable (mg_exc E) 6, .castable (mg_exc E) (mg_exc E), .selects (mg_exc E) Bundle.tFill0 Bundle.tFill0, .selects (mg_exc E) Bundle.tFill Bundle.tFill,
   .lays (mg_exc E) Bundle.tN "cause" "Ljava/lang/Throwable;", .lays (mg_exc E) Bundle.tN "stackTrace" Bundle.steD, .lays (mg_exc E) Bundle.tN "suppressedExceptions" Bundle.listD, .lays (mg_exc E) Bundle.tN "detailMessage" "Ljava/lang/String;",
   .fieldLink Bundle.tN 198 Bundle.tN "backtrace" "Ljava/lang/Object;", .lays Bundle.tN Bundle.tN "backtrace" "Ljava/lang/Object;", .lays (mg_exc E) Bundle.tN "backtrace" "Ljava/lang/Object;"] : List Jvm.Cond)
theorem mg_six_ok {E : Nat} : decode (mg_six (mg_ix E)) 0 = .ok (.aload_n 0, 1) ∧ decode (mg_six (mg_ix E)) 1 = .ok (.aload_n 1, 1) ∧ decode (mg_six (mg_ix E)) 2 = .ok (.invokespecial (mg_ix E), 3) ∧ decode (mg_six (mg_ix E)) 5 = .ok (.return_, 1) := by
  by_cases h : E = 3
  · subst h; exact ⟨by decide +kernel, by decide +kernel, by decide +kernel, by decide +kernel⟩
  · have e : mg_ix E = 7 := if_neg h
    rw [e]; exact ⟨by decide +kernel, by decide +kernel, by decide +kernel, by decide +kernel⟩
theorem mg_fitE {E : Nat} (h : E < 6) : Bundle.fit (mg_exc E) = true := by
  match E, h with
  | 0, _ => decide +kernel
  | 1, _ => decide +kernel
  | 2, _ => decide +kernel
  | 3, _ => decide +kernel
  | 4, _ => decide +kernel
  | 5, _ => decide +kernel
section MGT
variable {p : Program} {l : Launch} {e : Env} {R : Room} {s : State} {m : MethodId} {args : Array Value} {below : List Frame} {meth : Method} {c : Code} {locs : List Loc} {cells slots : Nat}
set_option maxHeartbeats 2000000 in
theorem mg_ctor {U0 : State} (X : Stand p l e R s m args below meth c U0 locs cells slots) (hexec : p.tables.exec = Jvm.exec) (htr : e.platform.stackTraces = false) {own : String} {E ic : Nat} (hE : E < 6)
    (hown : s.vm.findClass own = some m.cls) (h : ∀ a ∈ mg_atL own ic E, a.before args s = true)
    (hU : (Cond.isRef (.static Bundle.tN "UNASSIGNED_STACK" Bundle.steD)).before args s = true) (hN : (Cond.isRef (.static Bundle.tN "SUPPRESSED_SENTINEL" Bundle.listD)).before args s = true)
    (hlocs : ∀ x ∈ locs, ∀ cell, s.heap[x.base]? = some cell → cell.vm.isStatics = false)
    {a : Addr} {cX : ClassId} {kX : Class} (hfoundX : s.vm.findClass (mg_exc E) = some cX) (hkX : s.vm.classes[cX]? = some kX) (hcell : U0.heap[a]? = some (freshCell cX kX)) (hnew : s.heap.size ≤ a)
    {msg : Value} (hmsg : msg.isRef = true)
    {g : JFrame} (hg : g.method = m) (hsize : g.locals.size = c.maxLocals) (hlocked : g.locked = none) (hentered : g.entered = []) {rest : List Value} (hstack : g.stack = msg :: .ref a :: .ref a :: rest)
    (hd6 : decode c.code g.pc = .ok (.invokespecial ic, 3)) (hd9 : decode c.code (g.pc + 3) = .ok (.athrow, 1)) (hout : ∀ x ∈ c.exceptionTable.toList, covers x (g.pc + 3) = false)
    (hRframes : 5 < R.frames) (hRlocals : 2 * g.monitorRoom + ((Value.ref a :: rest).map fun v => v.category).sum + 81 ≤ R.locals) (hlocks : meth.locks = false) :
    ∃ U : State, Steps p.tables e below (U0.setTop g) U ∧ U.status = .running ∧ Ended U below (.threw a) ∧ s.WarmedH U.vm ∧ s.sameButNew ({ U with vm := s.vm } : State) locs cells slots ∧
      ∃ ce, U.heap[a]? = some ce ∧ s.vm.findClass (mg_exc E) = some ce.cls ∧ ce.vm = .none := by
  have howns : e.platform.frameOwnsMonitors = true := by rw [X.admits.platform]
  have hfin : e.platform.finalization = false := by rw [X.admits.platform]
  have hpl : e.platform.magicAccessors = ({} : Platform).magicAccessors := by rw [X.admits.platform]
  have a' : ∀ x, x ∈ mg_atL own ic E → x.holds args s none s [] = true := fun x hx => h x hx
  have hU' : (Cond.isRef (.static Bundle.tN "UNASSIGNED_STACK" Bundle.steD)).holds args s none s [] = true := hU
  have hN' : (Cond.isRef (.static Bundle.tN "SUPPRESSED_SENTINEL" Bundle.listD)).holds args s none s [] = true := hN
  obtain ⟨s0, s1, s2, s5⟩ := mg_six_ok (E := E)
  obtain ⟨T, Z0, L, -, Y⟩ := ThrowableC.of_atoms (args := args) howns hfin hpl (fun x hx => h x (by simp [mg_atL, hx]))
  obtain ⟨Z, M, LZ, LM, hnZ⟩ := Init0T.ofS_atoms (args := args) hpl L Y (fun x hx => h x (by simp [mg_atL, hx]))
  obtain ⟨P1, L1, hP1m, hP1s⟩ := PassC.ofS_atoms (args := args) (s := s) hpl (X := mg_exc E) (Y := "java/lang/RuntimeException") (Bundle.fit_spec (mg_fitE hE)).1 (by decide) s0 s1 s2 s5 (fun x hx => h x (by simp [mg_atL, hx]))
  obtain ⟨P2, Ps, hlen, L2, hL, hP2m, hlink2, hlinkr⟩ := Bundle.chainS (args := args) hpl hnZ ["java/lang/Exception"] "java/lang/RuntimeException" (by decide +kernel) (by decide +kernel) (fun x hx => h x (by simp [mg_atL, hx]))
  have hlen : Ps.length = 1 := hlen
  have hlink1 : P1.sup = P2.m := Option.some.inj (hP1s.symm.trans hP2m)
  have hfound : s.vm.findClass (mg_exc E) = some P1.m.cls := findClass_of_methodNamed hP1m
  cases Option.some.inj (hfoundX.symm.trans hfound)
  obtain ⟨c1, kX', hc1, hk, hord, -, -, hn6⟩ := Cond.instantiable_spec (a' (.instantiable (mg_exc E) 6) (by simp [mg_atL]))
  cases Option.some.inj (hc1.symm.trans hfound)
  cases Option.some.inj (hkX.symm.trans hk)
  have hsel0 : selectMethod e.platform s.vm P1.m.cls T.fill0 = .method T.fill0 := by
    obtain ⟨c2, r2, m2, q1, q2, q3, q4, -⟩ := Cond.selects_spec (a' (.selects (mg_exc E) Bundle.tFill0 Bundle.tFill0) (by simp [mg_atL]))
    cases Option.some.inj (q1.symm.trans hfound)
    cases Option.some.inj (q2.symm.trans (State.methodFound?_of_named Y.fill0 (by decide)))
    cases Option.some.inj (q3.symm.trans Y.fill0)
    rw [Launch.admits_selectMethod X.admits]; exact q4
  have hselF : selectMethod e.platform s.vm P1.m.cls T.fill = .method T.fill := by
    obtain ⟨c2, r2, m2, q1, q2, q3, q4, -⟩ := Cond.selects_spec (a' (.selects (mg_exc E) Bundle.tFill Bundle.tFill) (by simp [mg_atL]))
    cases Option.some.inj (q1.symm.trans hfound)
    cases Option.some.inj (q2.symm.trans (State.methodFound?_of_named Y.fill (by decide)))
    cases Option.some.inj (q3.symm.trans Y.fill)
    rw [Launch.admits_selectMethod X.admits]; exact q4
  obtain ⟨cellS0, hcS0, hiss⟩ := Y.statics
  obtain ⟨u0, hu0⟩ := Cond.staticRefV Y.unassigned L.unassignedStatic L.statics hcS0 hiss hU'
  obtain ⟨sen, hsen⟩ := Cond.staticRefV Y.sentinel L.sentinelStatic L.statics hcS0 hiss hN'
  obtain ⟨ci198, i198, fB, hk198, hg198, ha198, hsB, -, hnB, htB, hffB⟩ := Cond.ownField (t := .object "java/lang/Object") Y.found L.cls (by decide +kernel) (a' (.fieldLink Bundle.tN 198 Bundle.tN "backtrace" "Ljava/lang/Object;") (by simp [mg_atL])) (a' (.lays Bundle.tN Bundle.tN "backtrace" "Ljava/lang/Object;") (by simp [mg_atL])) e.platform hpl
  obtain ⟨cellS, hcS', heS, -, hkeep⟩ := X.same.2.2.2.2.2 T.aS cellS0 hcS0
  have hcellS : U0.heap[T.aS]? = some cellS := hcS'
  have hout' : ∀ i, (⟨T.aS, i⟩ : Loc) ∉ locs := fun i hmem => by
    have := hlocs _ hmem cellS0 hcS0
    rw [hiss] at this; cases this
  have hknownS : cellS.vm ≠ .unknown := by
    rw [heS]; intro hu
    rw [show cellS0.vm = .unknown from hu] at hiss
    cases hiss
  have hneS : T.aS ≠ a := Nat.ne_of_lt (Nat.lt_of_lt_of_le (Array.getElem?_eq_some_iff.mp hcS0).1 hnew)
  obtain ⟨iM, hffM⟩ := Y.msg
  obtain ⟨tyC, dC, hdC, hdnC⟩ := Cond.laysAt hfound hk Y.cause (a' (.lays (mg_exc E) Bundle.tN "cause" "Ljava/lang/Throwable;") (by simp [mg_atL]))
  obtain ⟨tyS, dS, hdS, hdnS⟩ := Cond.laysAt hfound hk Y.stack (a' (.lays (mg_exc E) Bundle.tN "stackTrace" Bundle.steD) (by simp [mg_atL]))
  obtain ⟨tyP, dP, hdP, hdnP⟩ := Cond.laysAt hfound hk Y.supp (a' (.lays (mg_exc E) Bundle.tN "suppressedExceptions" Bundle.listD) (by simp [mg_atL]))
  obtain ⟨tyM, dM, hdM, hdnM⟩ := Cond.laysAt hfound hk hffM (a' (.lays (mg_exc E) Bundle.tN "detailMessage" "Ljava/lang/String;") (by simp [mg_atL]))
  obtain ⟨tyB, dB, hdB, hdnB⟩ := Cond.laysAt hfound hk hffB (a' (.lays (mg_exc E) Bundle.tN "backtrace" "Ljava/lang/Object;") (by simp [mg_atL]))
  have bC := Cond.laysApart hdB hdC hdnB hdnC (by rw [hnB, Y.causeName]; decide)
  have bS := Cond.laysApart hdB hdS hdnB hdnS (by rw [hnB, Y.stackName]; decide)
  have bP := Cond.laysApart hdB hdP hdnB hdnP (by rw [hnB, Y.suppName]; decide)
  have hskip : SkipFacts T e.platform s (fun u => u) u0 ((preparedCellV T.toThrowableT (freshCell P1.m.cls kX) a u0 sen).withEntry U0.cur) :=
    ⟨{ ci198 := ci198, i198 := i198, fBack := fB }, ⟨hk198, hg198, ha198, hsB⟩, by
      have := fresh_default (c := P1.m.cls) tyB
      rw [htB] at this
      simpa [preparedCellV, Cell.setSlot, Cell.withEntry, Array.getElem?_setIfInBounds, bC, bS, bP, bC.symm, bS.symm, bP.symm, defaultValue] using this, fun _ _ => rfl⟩
  obtain ⟨tm, methC, cdC, kC, vm₁, hnC, -, -, -, -, -, -, -, hW₁, st1⟩ := Steps.initColdS (tb := p.tables) (e := e) (below := below) (s := s) (U := U0) X.here hexec X.warmed hpl hown (t := Bundle.initS (mg_exc E)) rfl rfl (Bundle.fit_spec (mg_fitE hE)).2
    (a' (.methodLink own ic (Bundle.initS (mg_exc E))) (by simp [mg_atL])) (h (.instanceMethod (Bundle.initS (mg_exc E))) (by simp [mg_atL, Bundle.passSAtoms])) (bytes := mg_six (mg_ix E)) (maxL := 2) (h (.code (Bundle.initS (mg_exc E)) (mg_six (mg_ix E)) 2 none) (by simp [mg_atL, Bundle.passSAtoms]))
    (f := g) hg (a := a) (msg := msg) (rest := .ref a :: rest) hstack hd6
  cases Option.some.inj (hnC.symm.trans hP1m)
  have X₁ := X.noted hW₁
  obtain ⟨vm₂, X₂, st2⟩ := X₁.ctorMessageOffV hexec (g := { g with stack := .ref a :: rest }) hg hsize T L Z LZ M LM (P1 :: P2 :: Ps)
    (fun P hP => by
      rcases List.mem_cons.mp hP with rfl | hP
      · exact L1
      · rcases List.mem_cons.mp hP with rfl | hP
        · exact L2
        · exact hL P hP) ⟨hlink1, hlink2, hlinkr⟩ (u0 := u0) (sen := sen) (self := a) hmsg (cell := freshCell P1.m.cls kX) (cellS := cellS)
    hcell (fun _ => by simp) (by simp) rfl rfl hsel0 hselF hcellS hneS hknownS (by rw [hkeep _ (hout' _)]; exact hu0) (by rw [hkeep _ (hout' _)]; exact hsen)
    (Takes.of_laid hk hord tyC (by rw [Y.causeType]; rfl)) (Takes.of_laid hk hord tyS (by rw [Y.stackType]; exact fits_refV_array _ u0)) (Takes.of_laid hk hord tyP (by rw [Y.suppType]; exact fits_refV_object _ sen))
    (Takes.of_laid hk hord tyM (by rw [Y.msgType]; exact fits_refV_object _ ⟨msg, hmsg⟩)) Y.objLocals hskip htr [] hd6
    (by simp only [List.length_cons, hlen]; omega) (by simp only [List.length_cons, hlen]; exact hRlocals)
  obtain ⟨hwalk, hrun, hended, hWU, hsame⟩ := X₂.athrowLeaves hexec (g := { g with stack := .ref a :: rest, pc := g.pc + 3 }) hg hlocked hentered hout (a := a) (rest := rest) rfl hd9
  have hlt : a < ((U0.setVm vm₁).setVm vm₂).heap.size := (Array.getElem?_eq_some_iff.mp hcell).1
  have hUc := heapAt_setCell_self (s := (U0.setVm vm₁).setVm vm₂) (plainBareV T.toThrowableT (freshCell P1.m.cls kX) a u0 sen msg) hlt
  refine ⟨_, st1 _ (fun acts => ?_), hrun, hended, hWU, hsame.weaken (fun y hy hlt' => ?_) (Nat.le_refl _) (Nat.le_refl _), _, hUc, ?_, rfl⟩
  · rw [doInvoke_state]
    exact st2 _ hwalk
  · rcases List.mem_append.mp hy with h1 | h1
    · exact h1
    · exfalso
      have hb : y.base = a := by
        simp only [List.mem_cons, List.not_mem_nil, or_false] at h1
        rcases h1 with rfl | rfl | rfl | rfl | rfl <;> rfl
      rw [hb] at hlt'
      exact Nat.not_lt.mpr hnew hlt'
  · exact hfound
end MGT
section MGT2
variable {p : Program} {l : Launch} {e : Env} {R : Room} {s : State} {m : MethodId} {args : Array Value} {below : List Frame} {meth : Method} {c : Code} {H : Heap} {locs : List Loc} {cells slots : Nat}
variable {Qc : Array Value → State → Outcome → State → Prop} {XC : String → State → State → Prop} {free : Addr → Prop} {ls : Array Slot} {rest : List Value}
set_option maxHeartbeats 2000000 in
theorem mg_throw {cc : ByteArray} {pc q : Nat} (hexec : p.tables.exec = Jvm.exec) (hb : c.code = cc) (hl : l.stackTraces = false) {own text : String} {E ik is ic mc ms sa : Nat} {A : Nat → Prop} (hE : E < 6)
    (hown : s.vm.findClass own = some m.cls)
    (hk : (Cond.classLink own ik (mg_exc E)).before args s = true) (hini : (Cond.initialized (mg_exc E)).before args s = true) (hstr : vk_R own is text sa s) (hat : ∀ w ∈ mg_ats own ic E, w.before args s = true)
    (hgood : ∀ w ∈ Cond.classLink own ik (mg_exc E) :: Cond.initialized (mg_exc E) :: mg_ats own ic E, vx_ot w = true)
    (hU : vx_Zq Bundle.tN "UNASSIGNED_STACK" Bundle.steD A s s.heap) (hN : vx_Zq Bundle.tN "SUPPRESSED_SENTINEL" Bundle.listD A s s.heap) (hS : va_S A s.heap H locs) (hsize : ls.size = c.maxLocals)
    (d0 : decode cc pc = .ok (.new ik, 3)) (d3 : decode cc (pc + 3) = .ok (.dup, 1)) (d4 : (q = pc + 6 ∧ decode cc (pc + 4) = .ok (.ldc is, 2)) ∨ (q = pc + 7 ∧ decode cc (pc + 4) = .ok (.ldc_w is, 3))) (d6 : decode cc q = .ok (.invokespecial ic, 3)) (d9 : decode cc (q + 3) = .ok (.athrow, 1))
    (hout : ∀ x ∈ c.exceptionTable.toList, covers x (q + 3) = false)
    (hRframes : 5 < R.frames) (hRlocals : (rest.map fun v => v.category).sum + 82 ≤ R.locals) (hRcells : cells + 1 ≤ R.cells) (hRslots : slots + 6 ≤ R.slots) (hlocks : meth.locks = false)
    (hx : ∀ t : State, s.vm.Alike t.vm → H.size ≤ t.heap.size → (∀ q : Nat, q < H.size → t.heap[q]? = H[q]?) → XC (mg_exc E) s t)
    (hf : ∀ z ∈ locs, free z.base) (hc : cells + 1 ≤ mc) (hs : slots + 6 ≤ ms) :
    W p l e R s m args below meth c H locs cells slots (vx_MQ below Qc XC args s mc ms free) (F0 m pc ls rest) := by
  intro T hT X
  have htr : e.platform.stackTraces = false := (show e.platform.stackTraces = l.stackTraces by rw [X.admits.platform]).trans hl
  have Y := vx_rebase X (R' := { frames := R.frames, locals := R.locals, cells := 1, slots := 6 }) (Nat.le_refl _) (Nat.le_refl _) hRcells hRslots
  obtain ⟨s', hA⟩ : ∃ z, z = (T.setVm s.vm).setFrames (.invoking m args :: below) := ⟨_, rfl⟩
  rw [← hA] at Y
  have hvm : s'.vm = s.vm := by rw [hA]; rfl
  have hhp : s'.heap = H := by rw [hA]; exact hT
  have hW0 : s.WarmedH s'.vm := by rw [hvm]; exact State.WarmedH.refl s
  have hat' : ∀ w ∈ mg_ats own ic E, w.before args s' = true := fun w hw => vx_ot_at hW0 hvm.symm (hgood w (List.mem_cons_of_mem _ (List.mem_cons_of_mem _ hw))) (hat w hw)
  have hk' : (Cond.classLink own ik (mg_exc E)).before args s' = true := vx_ot_at hW0 hvm.symm (hgood _ List.mem_cons_self) hk
  have hini' : (Cond.initialized (mg_exc E)).before args s' = true := vx_ot_at hW0 hvm.symm (hgood _ (List.mem_cons_of_mem _ List.mem_cons_self)) hini
  have hU' : vx_Zq Bundle.tN "UNASSIGNED_STACK" Bundle.steD A s' s'.heap := by rw [hhp]; exact vx_Zq.moved hW0.alike (hU.kept hS.2.1)
  have hN' : vx_Zq Bundle.tN "SUPPRESSED_SENTINEL" Bundle.listD A s' s'.heap := by rw [hhp]; exact vx_Zq.moved hW0.alike (hN.kept hS.2.1)
  have h : ∀ w ∈ mg_atL own ic E, w.before args s' = true := vx_own hat' (vx_isRefq hU'.1) (vx_isRefq hN'.1) hU'.2.word hN'.2.word
  have hown' : s'.vm.findClass own = some m.cls := by rw [hvm]; exact hown
  have hins : (Cond.instantiable (mg_exc E) 6).before args s' = true := h _ (by simp [mg_atL])
  obtain ⟨vm₁, cX, kX, hfX, hkX, -, -, X₁, st1⟩ := Y.newCold hexec (own := own) (C := mg_exc E) (index := ik) (n := 6) hown' hk' hins hini'
    (g := F0 m pc ls rest) rfl (by rw [hb]; exact d0) (Nat.le_refl _) (Nat.le_refl _)
  generalize hT1 : (T.setVm vm₁).pushCell { cls := cX, slots := kX.instanceTypes.map defaultValue, vm := .none } = T1 at X₁ st1
  have hcat : (Value.ref T.heap.size).category = 1 := rfl
  have hcellA : T1.heap[T.heap.size]? = some (freshCell cX kX) := by rw [← hT1]; exact State.heap_pushCell_size _ _
  have d3' : decode c.code (pc + 3) = .ok (.dup, 1) := by rw [hb]; exact d3
  have hstr' : vk_R own is text sa s' := vk_R.warm hW0 hstr
  obtain ⟨U, hsteps, hrun, hend, hW, hsame, ce, hce, hO, hOv⟩ := mg_ctor X₁ hexec htr (own := own) (E := E) (ic := ic) hE hown' h (vx_isRefq hU'.1) (vx_isRefq hN'.1) (fun x hx => nomatch hx) hfX hkX hcellA (by rw [hhp, hT]; exact Nat.le_refl _) (msg := .ref sa) rfl
    (g := { method := m, pc := q, locals := ls, stack := .ref sa :: .ref T.heap.size :: .ref T.heap.size :: rest, locked := none }) rfl hsize rfl rfl (rest := rest) rfl
    (by rw [hb]; exact d6) (by rw [hb]; exact d9) hout hRframes (by
      show 2 * 0 + ((Value.ref T.heap.size :: rest).map fun v => v.category).sum + 81 ≤ R.locals
      simp only [List.map_cons, List.sum_cons, hcat]; omega) hlocks
  obtain ⟨f1, f2⟩ := vx_frame hsame
  rw [hhp] at f1 f2
  have hWs : s.WarmedH U.vm := State.WarmedH.trans hW0 hW
  have hcl : s.vm.findClass (mg_exc E) = some ce.cls := by
    have h9 := hO
    rw [hvm] at h9
    exact h9
  have hall : s.sameButNew ({ U with vm := s.vm } : State) locs mc ms := by
    subst hA
    obtain ⟨e1, e2⟩ := hsame
    rw [State.setFrames_setFrames] at e1
    have h2 : (T.setVm s.vm).sameButNew ({ U with vm := s.vm } : State) [] (0 + 1) (0 + 6) := ⟨e1, e2⟩
    have h3 := X.same.trans h2
    rw [List.append_nil] at h3
    exact h3.mono hc hs
  refine ⟨U, ?_, .threw T.heap.size, hrun, hend, Or.inr ⟨T.heap.size, rfl, mg_exc E, ce, locs, hx U hWs.alike f1 (fun q hq => f2 q hq (fun z hz => nomatch hz)), hce, hOv, hcl, hWs, hall, hf⟩⟩
  refine st1 _ ?_
  show Steps p.tables e below (T1.setTop { method := m, pc := pc + 3, locals := ls, stack := .ref T.heap.size :: rest, locked := none }) _
  jvm_step X₁.here [X₁.here.top, hexec, d3', Value.category]
  rcases d4 with ⟨rfl, d4⟩ | ⟨rfl, d4⟩
  · have d4' : decode c.code (pc + 4) = .ok (.ldc is, 2) := by rw [hb]; exact d4
    exact X₁.ldcString hexec (own := own) (text := text) (index := is) (a := sa) hown' hstr'.1 hstr'.2
      (g := { method := m, pc := pc + 4, locals := ls, stack := .ref T.heap.size :: .ref T.heap.size :: rest, locked := none }) rfl d4' _ hsteps
  · have d4' : decode c.code (pc + 4) = .ok (.ldc_w is, 3) := by rw [hb]; exact d4
    exact X₁.ldcStringW hexec (own := own) (text := text) (index := is) (a := sa) hown' hstr'.1 hstr'.2
      (g := { method := m, pc := pc + 4, locals := ls, stack := .ref T.heap.size :: .ref T.heap.size :: rest, locked := none }) rfl d4' _ hsteps
end MGT2
end
section
/-! CALLS, AND THE WHOLE: what mg_run answers, the real machine does -/
theorem mg_ml40 (y : Nat) : mg_mlen y ≤ 40 := by
  have h : mg_infos.all (fun i => Nat.ble i.2.2.1 40) = true := by decide +kernel
  unfold mg_mlen mg_i
  rw [List.getD_eq_getElem?_getD]
  cases hi : mg_infos[y]? with
  | none => decide
  | some i => exact Nat.le_of_ble_eq_true (List.all_eq_true.mp h i (List.mem_of_getElem? hi))
def mg_rm (d mc ms : Nat) : Room := { frames := d + 7, cells := mc, slots := ms, locals := 60 * d + 200 }
section MGP
variable (b n0 : Nat) (dT : Nat → ClassId) (D : va_G) (sc : mg_Sc)
def mg_Pc (as : List Value) (w : mg_S) : Array Value → State → Prop := fun v U => v = (as.map (mg_cv b n0)).toArray ∧ mg_V b n0 dT D sc w.2.1 U ∧ mg_Wd b n0 dT D w U.heap
def mg_Qc (r : mg_R) : Array Value → State → Outcome → State → Prop := fun _ st o t => (∃ v, r.1 = .inl v ∧ o = .returned (v.map (mg_cv b n0))) ∧ mg_Wd b n0 dT D r.2 t.heap ∧ va_F (fun q => n0 ≤ q) st t
def mg_XC (r : mg_R) : String → State → State → Prop := fun E st t => (∃ k, k < 6 ∧ r.1 = .inr k ∧ E = mg_exc k) ∧ mg_Wd b n0 dT D r.2 t.heap ∧ va_F (fun q => n0 ≤ q) st t
def mg_Met (l : Launch) (d y : Nat) (as : List Value) (w : mg_S) (r : mg_R) : Prop := vx_Met l (mg_N y) [mg_codeW y] (mg_rm d (r.2.2.1 - w.2.1) (r.2.2.2 - w.2.2)) (mg_Pc b n0 dT D sc as w) (mg_Qc b n0 dT D r) (mg_XC b n0 dT D r) (r.2.2.1 - w.2.1) (r.2.2.2 - w.2.2) (fun q => n0 ≤ q)
end MGP
section MGS
variable {b n0 : Nat} {dT : Nat → ClassId} {D : va_G} {sc : mg_Sc}
theorem mg_V_next {c0 c1 : Nat} {s U : State} {H : Heap} {locs : List Loc} (h : mg_V b n0 dT D sc c0 s) (hW : s.WarmedH U.vm) (hh : U.heap = H) (hS : va_S (fun q => n0 ≤ q) s.heap H locs) (hup : H.size ≤ n0 + c1) : mg_V b n0 dT D sc c1 U := by
  obtain ⟨h1, h2, h3, h4, h5, h6, h7, h8, h9, h10⟩ := h
  subst hh
  have hb : b < s.heap.size := Nat.lt_of_lt_of_le h8 h9
  refine ⟨h1.warm hW, va_K.moved hW.alike h2, fun p own k tx hp => ?_, fun E F a c d => (h4 E F a c d).moved hW.alike, vx_Zq.moved hW.alike (h5.kept hS.2.1), vx_Zq.moved hW.alike (h6.kept hS.2.1), va_X.moved hW.alike (h7.kept (hS.2.1 b hb (Nat.not_le.mpr h8))), h8, Nat.le_trans h9 hS.1, hup⟩
  obtain ⟨a, ha⟩ := h3 p own k tx hp
  exact ⟨a, vk_R.warm hW ha⟩
theorem mg_Pc_blind (as : List Value) (w : mg_S) : FrameBlind (mg_Pc b n0 dT D sc as w) := fun a U g mk h => ⟨h.1, mg_V_next (s := U) (U := U.calling g mk a) (H := U.heap) (locs := []) h.2.1 (State.WarmedH.refl U) rfl va_S.rf h.2.1.2.2.2.2.2.2.2.2.2, h.2.2⟩
theorem mg_split_spec {n : Nat} {st as r : List Value} (h : mg_split n st = some (as, r)) : st = as.reverse ++ r ∧ as.length = n := by
  unfold mg_split at h
  split at h
  · next hn =>
    cases h
    refine ⟨by rw [List.reverse_reverse, List.take_append_drop], ?_⟩
    rw [List.length_reverse, List.length_take]
    omega
  · cases h
theorem mg_isObj_spec {w : mg_S} {ci : Nat} {v : Value} (h : mg_isObj w ci v = true) : ∃ a fs, v = .ref (a + 1) ∧ w.1[a]? = some (.inr (ci, fs)) := by
  unfold mg_isObj at h
  split at h
  · next a =>
    split at h
    · next c fs hc =>
      have := eq_of_beq h
      subst this
      exact ⟨a, fs, rfl, hc⟩
    · cases h
  · cases h
theorem mg_light_cv {r : List Value} (h : mg_light r = true) : ((r.map (mg_cv b n0)).map fun v => v.category).sum ≤ 8 := by
  rw [mg_st_cat]
  exact of_decide_eq_true h
theorem mg_Qret {r : mg_R} {A : Array Value} {v : Option Value} {st t : State} (h : mg_Qc b n0 dT D r A st (.returned v) t) : ∃ u, r.1 = .inl u ∧ v = u.map (mg_cv b n0) ∧ mg_Wd b n0 dT D r.2 t.heap ∧ va_F (fun q => n0 ≤ q) st t := by
  obtain ⟨⟨u, h1, h2⟩, h3, h4⟩ := h
  cases h2
  exact ⟨u, h1, rfl, h3, h4⟩
variable {p : Program} {l : Launch} {e : Env} {R : Room} {s : State} {m : MethodId} {args : Array Value} {below : List Frame} {meth : Method} {c : Code} {Q : State → Prop}
theorem mg_code_hh {y : Nat} (h : mg_hh y = []) : mg_codeW y = .code (mg_N y) (mg_B y) (mg_mlen y) (mg_ret y) := by
  unfold mg_codeW
  rw [h]
theorem mg_code_hh2 {y : Nat} (h : mg_hh y ≠ []) : mg_codeW y = .codeWith (mg_N y) (mg_B y) (mg_mlen y) (mg_ret y) (mg_hh y) := by
  unfold mg_codeW
  split
  · next h2 => exact absurd h2 h
  · rfl
theorem mg_mchk_spec {y n : Nat} {st : Bool} (h : mg_mchk y n st = true) : mg_hasw (mg_pl y 0) (mg_codeW y) = true ∧ mg_hasw (mg_pl y 1) (.initialized (mg_own y)) = true ∧ mg_hasw (mg_pl y 2) (if st then .static (mg_N y) else .instanceMethod (mg_N y)) = true ∧ (mg_own y ≠ "java/lang/invoke/MethodHandle" ∧ mg_own y ≠ "java/lang/invoke/VarHandle") ∧ (parseMethodDescriptor (mg_N y).desc).map (fun d => d.parameters.length) = some n ∧ plainName (mg_own y) = true := by
  unfold mg_mchk at h
  simp only [Bool.and_eq_true, decide_eq_true_eq] at h
  obtain ⟨⟨⟨⟨h1, h2⟩, h3⟩, h4⟩, h5⟩ := h
  exact ⟨h1, h2, h3, ⟨h4.1, h4.2.1⟩, h4.2.2, h5⟩
theorem mg_goodW (y : Nat) : goodWord (mg_codeW y) = true := by
  unfold mg_codeW
  split <;> rfl
/-- what a call needs of its callee -/
theorem mg_callee {d y n : Nat} {st : Bool} (hTb : mg_Tb s) (hm : mg_mchk y n st = true) (mc ms : Nat) (hRf : d + 8 ≤ R.frames) (hRl : 60 * d + 260 ≤ R.locals) (args : Array Value) :
    ((mg_rm d mc ms).cells = mc ∧ (mg_rm d mc ms).slots = ms ∧ (mg_rm d mc ms).frames + 1 ≤ R.frames ∧ 8 + (mg_mlen y + 11) + (mg_rm d mc ms).locals ≤ R.locals ∧ (∀ w ∈ [mg_codeW y], ∀ (a' : Array Value) (U : State), s.WarmedH U.vm → w.before a' U = true) ∧ mg_codeW y ∈ [mg_codeW y]) ∧
    (mg_codeW y).before args s = true ∧ (Cond.initialized (mg_own y)).before args s = true ∧ (mg_own y ≠ "java/lang/invoke/MethodHandle" ∧ mg_own y ≠ "java/lang/invoke/VarHandle") ∧ (∀ sig, parseMethodDescriptor (mg_N y).desc = some sig → n = sig.parameters.length) := by
  obtain ⟨h1, h2, h3, h4, h5, h6⟩ := mg_mchk_spec hm
  have hml := mg_ml40 y
  refine ⟨⟨rfl, rfl, by show d + 7 + 1 ≤ R.frames; omega, by show 8 + (mg_mlen y + 11) + (60 * d + 200) ≤ R.locals; omega, fun w hw a' U hW => ?_, List.mem_singleton.mpr rfl⟩, hTb.use h1 args, hTb.use h2 args, h4, fun sig hs => ?_⟩
  · rw [List.mem_singleton.mp hw]
    exact word_at hW (good_of_word (mg_goodW y)) (hTb.use h1 args)
  · rw [hs] at h5
    exact (Option.some.inj h5).symm
set_option maxHeartbeats 4000000 in
theorem mg_call_run {mi c0 z0 pc d : Nat} (X : mg_X p l s m meth c mi) (V : mg_V b n0 dT D sc c0 s) {ins : Instr} {len : Nat} {o : List Nat} (hchk : mg_chk mi (pc, ins, len, o) = true) {loc : mg_L} {st : List Value} {w : mg_S} {y : Nat} {as r : List Value} {r1 : mg_R}
    (hc : mg_call mg_cls (pc, ins, len, o) st w = some (y, as, r)) (hM : mg_Met b n0 dT D sc l d y as w r1) (hRf : d + 8 ≤ R.frames) (hRl : 60 * d + 260 ≤ R.locals)
    {H : Heap} {locs : List Loc} {ls : Array Slot} (hW : mg_Wd b n0 dT D w H) (hS : va_S (fun q => n0 ≤ q) s.heap H locs) (hL : mg_Lo b n0 ls (mg_mlen mi) loc) (h1 : c0 ≤ w.2.1) (h2 : z0 ≤ w.2.2) (hm1 : w.2.1 ≤ r1.2.2.1) (hm2 : w.2.2 ≤ r1.2.2.2)
    (hRc : r1.2.2.1 ≤ c0 + R.cells) (hRz : r1.2.2.2 ≤ z0 + R.slots) (hup : H.size ≤ n0 + w.2.1) :
    vx_Run p l e R s m args below meth c H locs (w.2.1 - c0) (w.2.2 - z0) (r1.2.2.1 - w.2.1) (r1.2.2.2 - w.2.2) (F0 m pc ls (st.map (mg_cv b n0))) (r.map (mg_cv b n0)) (mg_Qc b n0 dT D r1 (as.map (mg_cv b n0)).toArray) (mg_XC b n0 dT D r1) (fun q => n0 ≤ q) := by
  obtain ⟨hx, hb, hml, hown, hret, hlocks, hname, htab, hnt⟩ := X
  have hTb := V.1
  have hK := V.2.1
  obtain ⟨hd1, hd2, hrest⟩ := mg_chk_at hchk
  have hP := hW.1
  have hcs : (w.2.1 - c0) + (r1.2.2.1 - w.2.1) ≤ R.cells ∧ (w.2.2 - z0) + (r1.2.2.2 - w.2.2) ≤ R.slots := ⟨by omega, by omega⟩
  have hpre : ∀ (V9 : Array Value), V9 = (as.map (mg_cv b n0)).toArray → ∀ U : State, U.heap = H → s.WarmedH U.vm → mg_Pc b n0 dT D sc as w V9 U := fun V9 hV U hU hWm => ⟨hV, mg_V_next V hWm hU hS hup, by rw [hU]; exact hW⟩
  cases ins with
  | invokevirtual idx =>
    have hd := hd1 rfl
    unfold mg_call at hc
    dsimp only at hc
    split at hc
    · next y9 n pl =>
      split at hc
      · next b9 as9 r9 hsp =>
        split at hc
        · next hcond =>
          cases hc
          have hr2 : (mg_hasw pl (.methodLink (mg_own mi) idx (mg_N y)) && mg_mchk y n false && mg_hasw (mg_pl y 3) (.selects (mg_own y) (mg_N y) (mg_N y)) && decide (mg_hh y = []) && decide ((mg_cl[mg_cls y]?).map (fun q => q.1) = some (mg_own y))) = true := hrest
          simp only [Bool.and_eq_true, decide_eq_true_eq] at hr2
          obtain ⟨⟨⟨⟨k1, k2⟩, k3⟩, k4⟩, k5⟩ := hr2
          obtain ⟨a9, fs, rfl, hcell⟩ := mg_isObj_spec hcond.1
          obtain ⟨hst, hlen⟩ := mg_split_spec hsp
          obtain ⟨q9, hq9, hq1⟩ := Option.map_eq_some_iff.mp k5
          obtain ⟨⟨g1, g2, g3, g4, g5, g6⟩, g7, g8, g9, g10⟩ := mg_callee (args := args) hTb k2 (r1.2.2.1 - w.2.1) (r1.2.2.2 - w.2.2) hRf hRl
          rw [mg_code_hh k4] at g5 g6 g7
          have hM9 : vx_Met l (mg_N y) [Cond.code (mg_N y) (mg_B y) (mg_mlen y) (mg_ret y)] (mg_rm d (r1.2.2.1 - w.2.1) (r1.2.2.2 - w.2.2)) (mg_Pc b n0 dT D sc (.ref (a9 + 1) :: as9) w) (mg_Qc b n0 dT D r1) (mg_XC b n0 dT D r1) (r1.2.2.1 - w.2.1) (r1.2.2.2 - w.2.2) (fun q => n0 ≤ q) := by
            have := hM
            unfold mg_Met at this
            rw [mg_code_hh k4] at this
            exact this
          have hrecv := va_recv hK hP hq9 (mg_ws_get (b := b) (n0 := n0) (dT := dT) hcell)
          rw [hq1] at hrecv
          refine vx_runV (Ts := []) (own := mg_own mi) (C := mg_own y) (b := n0 + a9) (As := as9.map (mg_cv b n0)) (n := n) (nL := mg_mlen mi) ⟨hx, hb, hml, hown, fun _ h => nomatch h⟩ hM9 ⟨⟨g1, g2, g3, g4, g5, g6, g7, g8, g9, g10, hTb.use k1 args⟩, hTb.use (mg_mchk_spec k2).2.2.1 args, hTb.use k3 args⟩ ⟨mg_Pc_blind _ _, hrecv, fun U hU hWm => hpre _ rfl U hU hWm⟩ rfl ?_ hL.1 ?_ (lv_room (mg_light_cv hcond.2.1)) hd hcs
          · rw [List.length_map]
            have : (Value.ref (a9 + 1) :: as9).length = n + 1 := hlen
            simpa using this
          · show st.map (mg_cv b n0) = (as9.map (mg_cv b n0)).reverse ++ Value.ref (n0 + a9) :: r.map (mg_cv b n0)
            rw [hst]
            simp [List.map_append, List.map_reverse]
            rfl
        · cases hc
      · cases hc
    · cases hc
  | invokestatic idx =>
    have hd := hd1 rfl
    unfold mg_call at hc
    dsimp only at hc
    split at hc
    · next k9 y9 n pl =>
      split at hc
      · next hk9 =>
        split at hc
        · next as9 r9 hsp =>
          split at hc
          · next hcond =>
            cases hc
            obtain ⟨hst, hlen⟩ := mg_split_spec hsp
            have hstk : st.map (mg_cv b n0) = (as.map (mg_cv b n0)).reverse ++ r.map (mg_cv b n0) := by
              rw [hst, List.map_append, List.map_reverse]
            have hlen9 : (as.map (mg_cv b n0)).length = n := by rw [List.length_map]; exact hlen
            match k9, hk9, hrest with
            | 0, _, hrest =>
              have hr2 : ((mg_hasw pl (.methodLink (mg_own mi) idx (mg_N y)) && decide (mg_hh y = [])) && mg_mchk y n true) = true := hrest
              simp only [Bool.and_eq_true, decide_eq_true_eq] at hr2
              obtain ⟨⟨k1, k4⟩, k2⟩ := hr2
              obtain ⟨⟨g1, g2, g3, g4, g5, g6⟩, g7, g8, g9, g10⟩ := mg_callee (args := args) hTb k2 (r1.2.2.1 - w.2.1) (r1.2.2.2 - w.2.2) hRf hRl
              rw [mg_code_hh k4] at g5 g6 g7
              have hM9 := hM
              unfold mg_Met at hM9
              rw [mg_code_hh k4] at hM9
              exact vx_runS (Ts := []) (own := mg_own mi) (As := as.map (mg_cv b n0)) (n := n) (nL := mg_mlen mi) ⟨hx, hb, hml, hown, fun _ h => nomatch h⟩ hM9 ⟨⟨g1, g2, g3, g4, g5, g6, g7, g8, g9, g10, hTb.use k1 args⟩, hTb.use (mg_mchk_spec k2).2.2.1 args⟩ ⟨mg_Pc_blind _ _, fun U hU hWm => hpre _ rfl U hU hWm⟩ rfl hlen9 hL.1 hstk (lv_room (mg_light_cv hcond.1)) hd hcs
            | 1, _, hrest =>
              have hr2 : ((mg_hasw pl (.methodLinkNest (mg_own mi) idx (mg_N y) "CustomsDesk") && decide (mg_hh y = [])) && mg_mchk y n true) = true := hrest
              simp only [Bool.and_eq_true, decide_eq_true_eq] at hr2
              obtain ⟨⟨k1, k4⟩, k2⟩ := hr2
              obtain ⟨⟨g1, g2, g3, g4, g5, g6⟩, g7, g8, g9, g10⟩ := mg_callee (args := args) hTb k2 (r1.2.2.1 - w.2.1) (r1.2.2.2 - w.2.2) hRf hRl
              rw [mg_code_hh k4] at g5 g6 g7
              have hM9 := hM
              unfold mg_Met at hM9
              rw [mg_code_hh k4] at hM9
              exact vx_runSN (Ts := []) (own := mg_own mi) (host := "CustomsDesk") (As := as.map (mg_cv b n0)) (n := n) (nL := mg_mlen mi) ⟨hx, hb, hml, hown, fun _ h => nomatch h⟩ hM9 ⟨⟨⟨g1, g2, g3, g4, g5, g6⟩, g7, g8, g9, g10, hTb.use k1 args⟩, hTb.use (mg_mchk_spec k2).2.2.1 args, trivial⟩ ⟨mg_Pc_blind _ _, fun U hU hWm => hpre _ rfl U hU hWm⟩ rfl hlen9 hL.1 hstk (lv_room (mg_light_cv hcond.1)) hd hcs
            | 2, _, hrest =>
              have hr2 : ((mg_hasw pl (.methodLink (mg_own mi) idx (mg_N y)) && decide (mg_hh y ≠ [])) && mg_mchk y n true) = true := hrest
              simp only [Bool.and_eq_true, decide_eq_true_eq] at hr2
              obtain ⟨⟨k1, k4⟩, k2⟩ := hr2
              obtain ⟨⟨g1, g2, g3, g4, g5, g6⟩, g7, g8, g9, g10⟩ := mg_callee (args := args) hTb k2 (r1.2.2.1 - w.2.1) (r1.2.2.2 - w.2.2) hRf hRl
              rw [mg_code_hh2 k4] at g5 g6 g7
              have hM9 := hM
              unfold mg_Met at hM9
              rw [mg_code_hh2 k4] at hM9
              exact vx_runSX (Ts := []) (own := mg_own mi) (As := as.map (mg_cv b n0)) (n := n) (nL := mg_mlen mi) ⟨hx, hb, hml, hown, fun _ h => nomatch h⟩ hM9 ⟨⟨g1, g2, g3, g4, g5, g6⟩, g7, g8, g9, g10, hTb.use k1 args, hTb.use (mg_mchk_spec k2).2.2.1 args⟩ ⟨mg_Pc_blind _ _, fun U hU hWm => hpre _ rfl U hU hWm⟩ rfl hlen9 hL.1 hstk (lv_room (mg_light_cv hcond.1)) hd hcs
            | k + 3, hk9, _ => omega
          · cases hc
        · cases hc
      · cases hc
    · cases hc
  | invokespecial idx =>
    have hd := hd1 rfl
    unfold mg_call at hc
    dsimp only at hc
    split at hc
    · next k9 y9 n pl =>
      split at hc
      · next hk9 =>
        split at hc
        · next b9 as9 r9 hsp =>
          split at hc
          · next hcond =>
            cases hc
            obtain ⟨a9, fs, rfl, hcell⟩ := mg_isObj_spec hcond.1
            obtain ⟨hst, hlen⟩ := mg_split_spec hsp
            have hstk : st.map (mg_cv b n0) = (as9.map (mg_cv b n0)).reverse ++ Value.ref (n0 + a9) :: r.map (mg_cv b n0) := by
              rw [hst]
              simp [List.map_append, List.map_reverse]
              rfl
            have hlen9 : (as9.map (mg_cv b n0)).length = n := by
              rw [List.length_map]
              have : (Value.ref (a9 + 1) :: as9).length = n + 1 := hlen
              simpa using this
            match k9, hk9, hrest with
            | 0, _, hrest =>
              have hr2 : (mg_hasw pl (.methodLink (mg_own mi) idx (mg_N y)) && mg_mchk y n false && decide (mg_hh y = []) && decide ((mg_N y).name = "<init>") && decide (mg_ret y = none) && decide ((mg_cl[mg_cls y]?).map (fun q => q.1) = some (mg_own y))) = true := hrest
              simp only [Bool.and_eq_true, decide_eq_true_eq] at hr2
              obtain ⟨⟨⟨⟨⟨k1, k2⟩, k4⟩, k5⟩, k6⟩, k7⟩ := hr2
              obtain ⟨⟨g1, g2, g3, g4, g5, g6⟩, g7, g8, g9, g10⟩ := mg_callee (args := args) hTb k2 (r1.2.2.1 - w.2.1) (r1.2.2.2 - w.2.2) hRf hRl
              rw [mg_code_hh k4, k6] at g5 g6 g7
              have hM9 := hM
              unfold mg_Met at hM9
              rw [mg_code_hh k4, k6] at hM9
              exact vx_runI (Ts := []) (own := mg_own mi) (b := n0 + a9) (As := as9.map (mg_cv b n0)) (n := n) (nL := mg_mlen mi) ⟨hx, hb, hml, hown, fun _ h => nomatch h⟩ hM9 ⟨⟨g1, g2, g3, g4, g5, g6, g7, g8, g9, g10, hTb.use k1 args⟩, k5, hTb.use (mg_mchk_spec k2).2.2.1 args⟩ ⟨mg_Pc_blind _ _, fun U hU hWm => hpre _ rfl U hU hWm⟩ rfl hlen9 hL.1 hstk (lv_room (mg_light_cv hcond.2.1)) hd hcs
            | 1, _, hrest =>
              have hr2 : (mg_hasw pl (.methodLinkNest (mg_own mi) idx (mg_N y) "CustomsDesk") && mg_mchk y n false && decide (mg_hh y = []) && decide ((mg_N y).name = "<init>") && decide (mg_ret y = none) && decide ((mg_cl[mg_cls y]?).map (fun q => q.1) = some (mg_own y))) = true := hrest
              simp only [Bool.and_eq_true, decide_eq_true_eq] at hr2
              obtain ⟨⟨⟨⟨⟨k1, k2⟩, k4⟩, k5⟩, k6⟩, k7⟩ := hr2
              obtain ⟨⟨g1, g2, g3, g4, g5, g6⟩, g7, g8, g9, g10⟩ := mg_callee (args := args) hTb k2 (r1.2.2.1 - w.2.1) (r1.2.2.2 - w.2.2) hRf hRl
              rw [mg_code_hh k4, k6] at g5 g6 g7
              have hM9 := hM
              unfold mg_Met at hM9
              rw [mg_code_hh k4, k6] at hM9
              exact vx_runIN (Ts := []) (own := mg_own mi) (host := "CustomsDesk") (b := n0 + a9) (As := as9.map (mg_cv b n0)) (n := n) (nL := mg_mlen mi) ⟨hx, hb, hml, hown, fun _ h => nomatch h⟩ hM9 ⟨⟨⟨g1, g2, g3, g4, g5, g6⟩, g7, g8, g9, g10, hTb.use k1 args⟩, k5, hTb.use (mg_mchk_spec k2).2.2.1 args⟩ ⟨mg_Pc_blind _ _, fun U hU hWm => hpre _ rfl U hU hWm⟩ rfl hlen9 hL.1 hstk (lv_room (mg_light_cv hcond.2.1)) hd hcs
            | k + 2, hk9, _ => omega
          · cases hc
        · cases hc
      · cases hc
    · cases hc
  | _ => cases hc
/-- behind a call -/
theorem mg_callW {c1 z1 c2 z2 mc ms pc : Nat} {H : Heap} {locs : List Loc} {ls : Array Slot} {st0 rest : List Value} {r1 : mg_R} {A9 : Array Value}
    (hr : vx_Run p l e R s m args below meth c H locs c1 z1 mc ms (F0 m pc ls st0) rest (mg_Qc b n0 dT D r1 A9) (mg_XC b n0 dT D r1) (fun q => n0 ≤ q)) (hS : va_S (fun q => n0 ≤ q) s.heap H locs) (hc : c1 + mc = c2) (hz : z1 + ms = z2)
    (kx : ∀ (k : Nat) (ce : Cell) (q9 : Addr) (H1 : Heap) (locs1 : List Loc), k < 6 → r1.1 = .inr k → mg_Wd b n0 dT D r1.2 H1 → va_S (fun q => n0 ≤ q) s.heap H1 locs1 → H1[q9]? = some ce → ce.vm = .none → s.vm.findClass (mg_exc k) = some ce.cls → vx_W p l e R s m args below meth c H1 locs1 c2 z2 Q (F0 m pc ls rest) q9)
    (kk : ∀ (u : Option Value) (H1 : Heap) (locs1 : List Loc), r1.1 = .inl u → mg_Wd b n0 dT D r1.2 H1 → va_S (fun q => n0 ≤ q) s.heap H1 locs1 → W p l e R s m args below meth c H1 locs1 c2 z2 Q (F0 m (pc + 3) ls ((u.map (mg_cv b n0)).toList ++ rest))) : W p l e R s m args below meth c H locs c1 z1 Q (F0 m pc ls st0) := by
  intro T hT X
  subst hc hz
  rcases hr T hT X with ⟨v, st₀, t, T', L, h0, X', hL, e1, e2, hq, stp⟩ | ⟨q, st₀, t, T', L, E, ce, h0, X', hL, e1, e2, ⟨⟨k, hk6, hk, hE⟩, hWd, hF⟩, hce, hcv, hcl, stp⟩
  · obtain ⟨u, hu, rfl, hWd, hF⟩ := mg_Qret hq
    obtain ⟨k1, k2, k3⟩ := vx_keep h0 e1 hS (fun q _ h => h) (fun q h => h) hL hF
    obtain ⟨t2, a1, b1⟩ := kk u T'.heap (locs ++ L) hu (by rw [e1]; exact hWd) k3 T' rfl X'
    exact ⟨t2, stp t2 a1, b1⟩
  · obtain ⟨k1, k2, k3⟩ := vx_keep h0 e1 hS (fun q _ h => h) (fun q h => h) hL hF
    subst hE
    obtain ⟨t2, a1, b1⟩ := kx k ce q T'.heap (locs ++ L) hk6 hk (by rw [e1]; exact hWd) k3 (by rw [e1]; exact hce) hcv hcl T' rfl X'
    exact ⟨t2, stp.trans a1, b1⟩
end MGS
end
section
/-! THE ENDS, AND THE WHOLE RUN -/
set_option maxHeartbeats 2000000 in
theorem mg_step_mono {sc : mg_Sc} {pc : Nat} {ins : Instr} {len : Nat} {o : List Nat} {loc : mg_L} {st : List Value} {w : mg_S} {pc' : Nat} {loc' : mg_L} {st' : List Value} {w' : mg_S} (h : mg_step sc (pc, ins, len, o) loc st w = some (pc', loc', st', w')) : w.2.1 ≤ w'.2.1 ∧ w.2.2 ≤ w'.2.2 := by
  have hr : w.2.1 ≤ w.2.1 ∧ w.2.2 ≤ w.2.2 := ⟨Nat.le_refl _, Nat.le_refl _⟩
  unfold mg_step at h
  dsimp only at h
  cases ins <;> (try dsimp only at h) <;> first
    | (cases h; done)
    | (cases h; exact hr)
    | (obtain ⟨v, -, he⟩ := Option.map_eq_some_iff.mp h; cases he; exact hr)
    | skip
  case ldc =>
    split at h
    · cases h; exact hr
    · cases h
  case ldc_w =>
    split at h
    · cases h; exact hr
    · cases h
  case goto =>
    split at h
    · cases h; exact hr
    · cases h
  case iadd =>
    split at h
    · cases h; exact hr
    · cases h
  case isub =>
    split at h
    · cases h; exact hr
    · cases h
  case imul =>
    split at h
    · cases h; exact hr
    · cases h
  case iand =>
    split at h
    · cases h; exact hr
    · cases h
  case ior =>
    split at h
    · cases h; exact hr
    · cases h
  case ineg =>
    split at h
    · cases h; exact hr
    · cases h
  case i2l =>
    split at h
    · cases h; exact hr
    · cases h
  case i2c =>
    split at h
    · cases h; exact hr
    · cases h
  case i2f =>
    split at h
    · cases h; exact hr
    · cases h
  case i2d =>
    split at h
    · cases h; exact hr
    · cases h
  case lcmp =>
    split at h
    · cases h; exact hr
    · cases h
  case fcmp =>
    split at h
    · cases h; exact hr
    · cases h
  case dcmp =>
    split at h
    · cases h; exact hr
    · cases h
  case dup =>
    split at h
    · cases h; exact hr
    · cases h; exact hr
    · cases h
  case dup2 =>
    split at h
    · cases h; exact hr
    · cases h; exact hr
    · cases h
  case pop =>
    split at h
    · cases h; exact hr
    · cases h; exact hr
    · cases h
  case idiv =>
    split at h
    · split at h
      · cases h
      · cases h; exact hr
    · cases h
  case irem =>
    split at h
    · split at h
      · cases h
      · cases h; exact hr
    · cases h
  case f2d =>
    split at h
    · split at h
      · cases h; exact hr
      · cases h
    · cases h
  case fdiv =>
    split at h
    · split at h
      · cases h; exact hr
      · cases h
    · cases h
  case ddiv =>
    split at h
    · split at h
      · cases h; exact hr
      · cases h
    · cases h
  case istore =>
    split at h
    · split at h
      · cases h; exact hr
      · cases h
    · cases h
  case istore_n =>
    split at h
    · split at h
      · cases h; exact hr
      · cases h
    · cases h
  case astore =>
    split at h
    · split at h
      · cases h; exact hr
      · cases h
    · cases h
  case astore_n =>
    split at h
    · split at h
      · cases h; exact hr
      · cases h
    · cases h
  case fstore =>
    split at h
    · split at h
      · cases h; exact hr
      · cases h
    · cases h
  case dstore =>
    split at h
    · split at h
      · cases h; exact hr
      · cases h
    · cases h
  case iinc =>
    split at h
    · cases h; exact hr
    · cases h
  case fconst f =>
    match f, h with
    | 0, h => cases h; exact hr
    | 1, h => cases h
    | 2, h => cases h
  case dconst f =>
    match f, h with
    | 0, h => cases h; exact hr
    | 1, h => cases h
  case ifCond =>
    split at h
    · split at h <;> (unfold mg_br at h; cases h; exact hr)
    · cases h
  case if_icmp =>
    split at h
    · split at h <;> (unfold mg_br at h; cases h; exact hr)
    · cases h
  case tableswitch =>
    split at h
    · split at h
      · cases h; exact hr
      · obtain ⟨v, -, he⟩ := Option.map_eq_some_iff.mp h; cases he; exact hr
    · cases h
  case getfield =>
    split at h
    · split at h
      · split at h
        · obtain ⟨v, -, he⟩ := Option.map_eq_some_iff.mp h; cases he; exact hr
        · cases h
      · cases h
    · cases h
  case putfield =>
    split at h
    · split at h
      · split at h
        · cases h; exact hr
        · cases h
      · cases h
    · cases h
  case iaload =>
    split at h
    · obtain ⟨v, -, he⟩ := Option.map_eq_some_iff.mp h; cases he; exact hr
    · cases h
  case arraylength =>
    split at h
    · obtain ⟨v, -, he⟩ := Option.map_eq_some_iff.mp h; cases he; exact hr
    · cases h
  case caload =>
    split at h
    · split at h
      · split at h
        · cases h
        · cases h; exact hr
      · cases h
    · cases h
  case laload =>
    split at h
    · split at h
      · split at h
        · cases h
        · cases h; exact hr
      · cases h
    · cases h
  case daload =>
    split at h
    · split at h
      · split at h
        · cases h
        · cases h; exact hr
      · cases h
    · cases h
  case iastore =>
    split at h
    · split at h
      · split at h
        · cases h
        · cases h; exact hr
      · cases h
    · cases h
  case castore =>
    split at h
    · split at h
      · split at h
        · cases h
        · cases h; exact hr
      · cases h
    · cases h
  case lastore =>
    split at h
    · split at h
      · split at h
        · cases h
        · cases h; exact hr
      · cases h
    · cases h
  case dastore =>
    split at h
    · split at h
      · split at h
        · cases h
        · cases h; exact hr
      · cases h
    · cases h
  case newarray =>
    split at h
    · split at h
      · cases h
      · obtain ⟨v, -, he⟩ := Option.map_eq_some_iff.mp h; cases he; exact ⟨Nat.le_succ _, Nat.le_add_right _ _⟩
    · cases h
  case new =>
    split at h
    · split at h
      · cases h
      · obtain ⟨v, -, he⟩ := Option.map_eq_some_iff.mp h; cases he; exact ⟨Nat.le_succ _, Nat.le_add_right _ _⟩
    · cases h
  case invokespecial =>
    split at h
    · split at h
      · cases h; exact hr
      · cases h
    · cases h
  case invokestatic =>
    split at h
    · split at h
      · cases h; exact hr
      · cases h
    · split at h
      · cases h; exact hr
      · cases h
    · split at h
      · split at h
        · cases h; exact hr
        · cases h
      · cases h
    · cases h
theorem mg_end_mono {ret : Option FieldType} {e : mg_E} {st : List Value} {w : mg_S} {r : mg_R} (h : mg_end ret e st w = some r) : w.2.1 ≤ r.2.2.1 ∧ w.2.2 ≤ r.2.2.2 := by
  have hr : w.2.1 ≤ w.2.1 ∧ w.2.2 ≤ w.2.2 := ⟨Nat.le_refl _, Nat.le_refl _⟩
  obtain ⟨pc, ins, len, o⟩ := e
  unfold mg_end at h
  dsimp only at h
  split at h
  · split at h
    · cases h; exact hr
    · split at h
      · cases h; exact hr
      · cases h
    · cases h
  · split at h
    · cases h; exact hr
    · cases h
  · split at h
    · cases h; exact hr
    · cases h
  · split at h
    · cases h; exact hr
    · cases h
  · split at h
    · cases h; exact hr
    · cases h
  · split at h
    · split at h
      · cases h; exact ⟨Nat.le_succ _, Nat.le_add_right _ _⟩
      · cases h
    · cases h
  · cases h
theorem mg_run_mono {sc : mg_Sc} : ∀ (n d mi pc : Nat) (loc : mg_L) (st : List Value) (w : mg_S) (r : mg_R), mg_run sc n d mi pc loc st w = some r → w.2.1 ≤ r.2.2.1 ∧ w.2.2 ≤ r.2.2.2 := by
  intro n
  induction n with
  | zero => intro d mi pc loc st w r h; cases h
  | succ n ih =>
    intro d mi pc loc st w r h
    unfold mg_run at h
    split at h
    · cases h
    · next e he =>
      split at h
      · next y as r9 hc =>
        split at h
        · cases h
        · next d =>
          split at h
          · cases h
          · split at h
            · next v w1 h1 =>
              have a := ih _ _ _ _ _ _ _ h1
              have b := ih _ _ _ _ _ _ _ h
              exact ⟨Nat.le_trans a.1 b.1, Nat.le_trans a.2 b.2⟩
            · next E w1 h1 =>
              have a := ih _ _ _ _ _ _ _ h1
              split at h
              · cases h; exact a
              · next q hq =>
                have b := ih _ _ _ _ _ _ _ h
                exact ⟨Nat.le_trans a.1 b.1, Nat.le_trans a.2 b.2⟩
              · cases h
            · cases h
      · split at h
        · next r9 h9 =>
          cases h
          exact mg_end_mono h9
        · split at h
          · next pc' loc' st' w' h9 =>
            obtain ⟨pc0, ins, len, o⟩ := e
            have a := mg_step_mono h9
            have b := ih _ _ _ _ _ _ _ h
            exact ⟨Nat.le_trans a.1 b.1, Nat.le_trans a.2 b.2⟩
          · cases h
theorem mg_tok {E : Nat} (h : E < 6) : mg_tchk "CustomsDesk" (mg_ics.getD E 0) E = true := by
  match E, h with
  | 0, _ => exact mg_tok_0
  | 1, _ => exact mg_tok_1
  | 2, _ => exact mg_tok_2
  | 3, _ => exact mg_tok_3
  | 4, _ => exact mg_tok_4
  | 5, _ => exact mg_tok_5
section MGE
variable {b n0 : Nat} {dT : Nat → ClassId} {D : va_G} {sc : mg_Sc}
variable {p : Program} {l : Launch} {e : Env} {R : Room} {s : State} {m : MethodId} {args : Array Value} {below : List Frame} {meth : Method} {c : Code}
set_option maxHeartbeats 2000000 in
theorem mg_end_sound {mi c0 z0 pc : Nat} (X : mg_X p l s m meth c mi) (V : mg_V b n0 dT D sc c0 s) {ins : Instr} {len : Nat} {o : List Nat} (hchk : mg_chk mi (pc, ins, len, o) = true) {loc : mg_L} {st : List Value} {w : mg_S} {r : mg_R}
    (he : mg_end (mg_ret mi) (pc, ins, len, o) st w = some r) (hRf : 7 ≤ R.frames) (hRl : 200 ≤ R.locals) (hRc : r.2.2.1 ≤ c0 + R.cells) (hRz : r.2.2.2 ≤ z0 + R.slots) :
    mg_K p l e R s m args below meth c (vx_MQ below (mg_Qc b n0 dT D r) (mg_XC b n0 dT D r) args s (r.2.2.1 - c0) (r.2.2.2 - z0) (fun q => n0 ≤ q)) b n0 dT D (mg_mlen mi) c0 z0 pc loc st w := by
  obtain ⟨hx, hb, hml, hown, hret, hlocks, hname, htab, hnt⟩ := X
  obtain ⟨hTb, hK, hstr, hnc, hZU, hZN, hXs, hbn, hnh, hup⟩ := V
  obtain ⟨hd1, hd2, hrest⟩ := mg_chk_at hchk
  intro H locs ls hW hS hL h1 h2
  cases ins with
  | ireturn =>
    have hd := hd1 rfl
    unfold mg_end at he
    dsimp only at he
    split at he
    · next x hr9 =>
      cases he
      exact vx_ret (W.iret hx hb (hret.trans hr9) (fun t ht hWm => ⟨⟨_, rfl, rfl⟩, by rw [ht]; exact hW, hS.F ht⟩) hS.2.2 hd hlocks)
    · next x hr9 =>
      split at he
      · next h01 =>
        cases he
        exact vx_ret (W.zret hx hb (hret.trans hr9) (by rcases h01 with rfl | rfl <;> rfl) (fun t ht hWm => ⟨⟨_, rfl, rfl⟩, by rw [ht]; exact hW, hS.F ht⟩) hS.2.2 hd hlocks)
      · cases he
    · cases he
  | return_ =>
    have hd := hd1 rfl
    unfold mg_end at he
    dsimp only at he
    split at he
    · next hr9 =>
      cases he
      exact vx_ret (W.vret hx hb (hret.trans hr9) (fun t ht hWm => ⟨⟨_, rfl, rfl⟩, by rw [ht]; exact hW, hS.F ht⟩) hS.2.2 hd hlocks)
    · cases he
  | areturn =>
    have hd := hd1 rfl
    unfold mg_end at he
    dsimp only at he
    split at he
    · next n9 x hr9 =>
      cases he
      exact vx_ret (W.aret hx hb (hret.trans hr9) (Or.inl ⟨_, rfl⟩) (Or.inr ⟨_, rfl⟩) (fun t ht hWm => ⟨⟨_, rfl, rfl⟩, by rw [ht]; exact hW, hS.F ht⟩) hS.2.2 hd hlocks)
    · cases he
  | freturn =>
    have hd := hd1 rfl
    unfold mg_end at he
    dsimp only at he
    split at he
    · next x hr9 =>
      cases he
      exact vx_ret (W.fret hx hb (hret.trans hr9) (fun t ht hWm => ⟨⟨_, rfl, rfl⟩, by rw [ht]; exact hW, hS.F ht⟩) hS.2.2 hd hlocks)
    · cases he
  | dreturn =>
    have hd := hd1 rfl
    unfold mg_end at he
    dsimp only at he
    split at he
    · next x hr9 =>
      cases he
      exact vx_ret (W.dret hx hb (hret.trans hr9) (fun t ht hWm => ⟨⟨_, rfl, rfl⟩, by rw [ht]; exact hW, hS.F ht⟩) hS.2.2 hd hlocks)
    · cases he
  | new idx =>
    have hd := hd1 rfl
    unfold mg_end at he
    dsimp only at he
    split at he
    · next E tl =>
      split at he
      · next hst =>
        subst hst
        cases he
        rcases tl with _ | ⟨is9, _ | ⟨ic, _ | ⟨wide, _ | ⟨p9, _ | ⟨ps, _ | ⟨x9, tl⟩⟩⟩⟩⟩⟩
        · exact absurd (show false = true from hrest) (by decide)
        · exact absurd (show false = true from hrest) (by decide)
        · exact absurd (show false = true from hrest) (by decide)
        · exact absurd (show false = true from hrest) (by decide)
        · exact absurd (show false = true from hrest) (by decide)
        · have hr2 := hrest
          unfold mg_rest at hr2
          dsimp only at hr2
          simp only [Bool.and_eq_true, decide_eq_true_eq] at hr2
          obtain ⟨⟨⟨⟨⟨⟨⟨⟨⟨⟨k1, k2⟩, k3⟩, k4⟩, k5⟩, k6⟩, k7⟩, k8⟩, k9⟩, k10⟩, k11⟩ := hr2
          have hE6 : E < 6 := by rwa [Nat.blt_eq] at k1
          have hic : mg_ics.getD E 0 = ic := Nat.eq_of_beq_eq_true k8
          have htk := mg_tok hE6
          rw [hic] at htk
          unfold mg_tchk at htk
          have hatx : ∀ w ∈ mg_ats "CustomsDesk" ic E, mg_mem w = true ∧ vx_ot w = true := fun w hw => by
            have h9 := List.all_eq_true.mp htk w hw
            simpa only [Bool.and_eq_true] using h9
          split at k9
          · next ow kk tx hps =>
            simp only [Bool.and_eq_true, decide_eq_true_eq] at k9
            obtain ⟨k9a, k9b⟩ := k9
            have hkk : kk = is9 := Nat.eq_of_beq_eq_true k9b
            subst hkk
            obtain ⟨sa, hsa⟩ := hstr ps ow kk tx hps
            rw [k9a] at hsa
            have hout : ∀ q : Nat, ∀ x ∈ c.exceptionTable.toList, covers x (q + 3) = false := fun q x hx9 => by
              rw [htab, k10] at hx9
              cases hx9
            have hq : ∃ q, ((q = pc + 6 ∧ decode (mg_B mi) (pc + 4) = .ok (.ldc kk, 2)) ∨ (q = pc + 7 ∧ decode (mg_B mi) (pc + 4) = .ok (.ldc_w kk, 3))) ∧ decode (mg_B mi) q = .ok (.invokespecial ic, 3) ∧ decode (mg_B mi) (q + 3) = .ok (.athrow, 1) := by
              split at k11
              · simp only [Bool.and_eq_true, decide_eq_true_eq] at k11
                exact ⟨pc + 6, Or.inl ⟨rfl, k11.1.1⟩, k11.1.2, k11.2⟩
              · simp only [Bool.and_eq_true, decide_eq_true_eq] at k11
                exact ⟨pc + 7, Or.inr ⟨rfl, k11.1.1⟩, k11.1.2, k11.2⟩
            obtain ⟨q, hq4, hq6, hq9⟩ := hq
            have hRc' : w.2.1 + 1 ≤ c0 + R.cells := hRc
            have hRz' : w.2.2 + 6 ≤ z0 + R.slots := hRz
            refine mg_throw (A := fun q => n0 ≤ q) (own := mg_own mi) (text := tx) (E := E) (ik := idx) (is := kk) (ic := ic) (sa := sa) hx hb hnt hE6 hown (hTb.use k2 args) (hTb.useM k3 args) hsa (fun w hw => hTb.useM (hatx w (by rw [← k7]; exact hw)).1 args) (fun w hw => ?_) hZU hZN hS (hL.1.trans hml.symm) hd k6 hq4 hq6 hq9 (hout q) (by omega) (by show 0 + 82 ≤ R.locals; omega) (by omega) (by omega) hlocks (fun t hal hz hkp => ?_) hS.2.2 (by show w.2.1 - c0 + 1 ≤ w.2.1 + 1 - c0; omega) (by show w.2.2 - z0 + 6 ≤ w.2.2 + 6 - z0; omega)
            · rcases List.mem_cons.mp hw with rfl | hw
              · exact k4
              · rcases List.mem_cons.mp hw with rfl | hw
                · exact k5
                · exact (hatx w (by rw [← k7]; exact hw)).2
            · refine ⟨⟨E, hE6, rfl, rfl⟩, ⟨hW.1.kept fun k9 q9 hk9 => hkp _ (hW.1 k9 q9 hk9).lt, Nat.le_succ_of_le hW.2⟩, Nat.le_trans hS.1 hz, fun q9 hq9 hA9 => ?_⟩
              rw [hkp q9 (Nat.lt_of_lt_of_le hq9 hS.1)]
              exact hS.2.1 q9 hq9 hA9
          · cases k9
        · exact absurd (show false = true from hrest) (by decide)
      · cases he
    · cases he
  | _ => cases he
end MGE
end
section
/-! WHAT A RUN COMES TO: rules -/
def mg_Ev (sc : mg_Sc) (d mi pc : Nat) (loc : mg_L) (st : List Value) (w : mg_S) (r : mg_R) : Prop := ∃ n, mg_run sc n d mi pc loc st w = some r
theorem mg_run_le {sc : mg_Sc} : ∀ (n d mi pc : Nat) (loc : mg_L) (st : List Value) (w : mg_S) (r : mg_R), mg_run sc n d mi pc loc st w = some r → ∀ n' d', n ≤ n' → d ≤ d' → mg_run sc n' d' mi pc loc st w = some r := by
  intro n
  induction n with
  | zero => intro d mi pc loc st w r h; cases h
  | succ n ih =>
    intro d mi pc loc st w r h n' d' hn hd
    obtain ⟨n', rfl⟩ : ∃ k, n' = k + 1 := ⟨n' - 1, by omega⟩
    have hn : n ≤ n' := by omega
    unfold mg_run at h ⊢
    split at h
    · cases h
    · next e he =>
      try rw [he]
      try dsimp only
      split at h
      · next y as r9 hc =>
        try rw [hc]
        try dsimp only
        split at h
        · cases h
        · next d =>
          obtain ⟨d', rfl⟩ : ∃ k, d' = k + 1 := ⟨d' - 1, by omega⟩
          have hd : d ≤ d' := by omega
          try dsimp only
          split at h
          · cases h
          · next hl =>
            try rw [if_neg hl]
            split at h
            · next v w1 h1 =>
              have k1 := ih _ _ _ _ _ _ _ h1 n' d' hn hd
              simp only [k1]
              exact ih _ _ _ _ _ _ _ h n' (d' + 1) hn (by omega)
            · next E w1 h1 =>
              have k1 := ih _ _ _ _ _ _ _ h1 n' d' hn hd
              simp only [k1]
              split at h
              · next hx => first | exact h | (simp only [hx]; exact h)
              · next q hx => first | exact ih _ _ _ _ _ _ _ h n' (d' + 1) hn (by omega) | (simp only [hx]; exact ih _ _ _ _ _ _ _ h n' (d' + 1) hn (by omega))
              · cases h
            · cases h
      · next hc =>
        try rw [hc]
        try dsimp only
        split at h
        · next r9 h9 => first | exact h | (rw [h9]; exact h)
        · next h9 =>
          try rw [h9]
          try dsimp only
          split at h
          · next pc' loc' st' w' h10 => first | exact ih _ _ _ _ _ _ _ h n' d' hn hd | (rw [h10]; exact ih _ _ _ _ _ _ _ h n' d' hn hd)
          · cases h
end
section
/-- more known locals -/
def mg_le : mg_L → mg_L → Prop
  | [], [] => True
  | none :: a, _ :: b => mg_le a b
  | some v :: a, some u :: b => v = u ∧ mg_le a b
  | _, _ => False
theorem mg_le_rfl : ∀ a : mg_L, mg_le a a
  | [] => trivial
  | none :: a => mg_le_rfl a
  | some _ :: a => ⟨rfl, mg_le_rfl a⟩
theorem mg_le_len : ∀ {a b : mg_L}, mg_le a b → a.length = b.length
  | [], [], _ => rfl
  | none :: _, _ :: _, h => congrArg (· + 1) (mg_le_len h)
  | some _ :: _, some _ :: _, h => congrArg (· + 1) (mg_le_len h.2)
theorem mg_le_at : ∀ {a b : mg_L} {i : Nat} {v : Value}, mg_le a b → a[i]? = some (some v) → b[i]? = some (some v)
  | none :: a, x :: b, 0, v, h, hi => by cases hi
  | none :: a, x :: b, i + 1, v, h, hi => by rw [List.getElem?_cons_succ] at hi ⊢; exact mg_le_at (a := a) h hi
  | some u :: a, some x :: b, 0, v, h, hi => by rw [List.getElem?_cons_zero] at hi ⊢; rw [← h.1]; exact hi
  | some u :: a, some x :: b, i + 1, v, h, hi => by rw [List.getElem?_cons_succ] at hi ⊢; exact mg_le_at (a := a) h.2 hi
theorem mg_le_of : ∀ {a b : mg_L}, a.length = b.length → (∀ (i : Nat) (v : Value), a[i]? = some (some v) → b[i]? = some (some v)) → mg_le a b
  | [], [], _, _ => trivial
  | [], _ :: _, h, _ => by cases h
  | _ :: _, [], h, _ => by cases h
  | none :: a, x :: b, h, k => mg_le_of (a := a) (by simpa using h) fun i v hi => by
      have := k (i + 1) v (by rw [List.getElem?_cons_succ]; exact hi)
      rwa [List.getElem?_cons_succ] at this
  | some u :: a, x :: b, h, k => by
      have h0 := k 0 u rfl
      rw [List.getElem?_cons_zero] at h0
      cases h0
      exact ⟨rfl, mg_le_of (a := a) (by simpa using h) fun i v hi => by
        have := k (i + 1) v (by rw [List.getElem?_cons_succ]; exact hi)
        rwa [List.getElem?_cons_succ] at this⟩
theorem mg_le_kill {a b : mg_L} (h : mg_le a b) (i : Nat) {j : Nat} {u : Value} (hj : (mg_kill a i)[j]? = some (some u)) : (mg_kill b i)[j]? = some (some u) := by
  obtain ⟨h1, h2⟩ := mg_kill_get hj
  have h3 := mg_le_at h h1
  unfold mg_kill
  cases i with
  | zero => exact h3
  | succ k =>
    dsimp only
    have key : ∀ z : Value, z.category = 2 → b[k]? = some (some z) → (b.set k none)[j]? = some (some u) := by
      intro z hz hk
      rw [List.getElem?_set]
      by_cases hkj : k = j
      · subst hkj
        rw [h3] at hk
        cases hk
        exact absurd ⟨rfl, hz⟩ h2
      · rw [if_neg hkj]; exact h3
    split
    · next z hz => exact key _ rfl hz
    · next z hz => exact key _ rfl hz
    · exact h3
theorem mg_le_set {a b : mg_L} (hl : a.length = b.length) (h : ∀ (i : Nat) (v : Value), a[i]? = some (some v) → b[i]? = some (some v)) (i : Nat) (o : Option Value) : mg_le (a.set i o) (b.set i o) := by
  refine mg_le_of (by simpa using hl) fun j v hj => ?_
  rw [List.getElem?_set] at hj ⊢
  by_cases hij : i = j
  · rw [if_pos hij] at hj ⊢
    rw [← hl]
    exact hj
  · rw [if_neg hij] at hj ⊢
    exact h j v hj
theorem mg_le_killed {a b : mg_L} (h : mg_le a b) (i : Nat) : mg_le (mg_kill a i) (mg_kill b i) := mg_le_of (by rw [mg_kill_len, mg_kill_len, mg_le_len h]) fun _ _ hj => mg_le_kill h i hj
theorem mg_le_st1 {a b : mg_L} (h : mg_le a b) (i : Nat) (v : Value) : mg_le (mg_st1 a i v) (mg_st1 b i v) := mg_le_set (by rw [mg_kill_len, mg_kill_len, mg_le_len h]) (fun _ _ hj => mg_le_kill h i hj) i (some v)
theorem mg_le_st2 {a b : mg_L} (h : mg_le a b) (i : Nat) (v : Value) : mg_le (mg_st2 a i v) (mg_st2 b i v) := by
  have h1 := mg_le_st1 h i v
  exact mg_le_set (mg_le_len h1) (fun _ _ hj => mg_le_at h1 hj) (i + 1) none
end
section
theorem mg_ldF_le {a b : mg_L} {i : Nat} {v : Value} (hm : mg_le a b) (h : mg_ldF a i = some v) : mg_ldF b i = some v := by
  obtain ⟨x, rfl, hl⟩ := mg_ldF_spec h
  unfold mg_ldF
  rw [mg_le_at hm hl]
theorem mg_ldI_le {a b : mg_L} {i : Nat} {v : Value} (hm : mg_le a b) (h : mg_ldI a i = some v) : mg_ldI b i = some v := by
  obtain ⟨x, rfl, hl⟩ := mg_ldI_spec h
  unfold mg_ldI
  rw [mg_le_at hm hl]
theorem mg_ldA_le {a b : mg_L} {i : Nat} {v : Value} (hm : mg_le a b) (h : mg_ldA a i = some v) : mg_ldA b i = some v := by
  obtain ⟨x, rfl, hl⟩ := mg_ldA_spec h
  unfold mg_ldA
  rw [mg_le_at hm hl]
theorem mg_ldD_le {a b : mg_L} {i : Nat} {v : Value} (hm : mg_le a b) (h : mg_ldD a i = some v) : mg_ldD b i = some v := by
  obtain ⟨x, rfl, hl⟩ := mg_ldD_spec h
  unfold mg_ldD
  rw [mg_le_at hm hl]
set_option maxHeartbeats 2000000 in
theorem mg_step_more {sc : mg_Sc} {pc : Nat} {ins : Instr} {len : Nat} {o : List Nat} {loc lo2 : mg_L} {st : List Value} {w : mg_S} {pc' : Nat} {loc' : mg_L} {st' : List Value} {w' : mg_S} (h : mg_step sc (pc, ins, len, o) loc st w = some (pc', loc', st', w')) (hm : mg_le loc lo2) :
    ∃ lo2', mg_step sc (pc, ins, len, o) lo2 st w = some (pc', lo2', st', w') ∧ mg_le loc' lo2' := by
  have hlen := mg_le_len hm
  unfold mg_step at h ⊢
  dsimp only at h ⊢
  cases ins <;> (try dsimp only at h ⊢) <;> first
    | (cases h; done)
    | (cases h; exact ⟨_, rfl, hm⟩)
    | skip
  case iload =>
    obtain ⟨v, hv, he⟩ := Option.map_eq_some_iff.mp h
    cases he
    have hv2 := mg_ldI_le hm hv
    exact ⟨_, by rw [hv2]; rfl, hm⟩
  case iload_n =>
    obtain ⟨v, hv, he⟩ := Option.map_eq_some_iff.mp h
    cases he
    have hv2 := mg_ldI_le hm hv
    exact ⟨_, by rw [hv2]; rfl, hm⟩
  case aload =>
    obtain ⟨v, hv, he⟩ := Option.map_eq_some_iff.mp h
    cases he
    have hv2 := mg_ldA_le hm hv
    exact ⟨_, by rw [hv2]; rfl, hm⟩
  case aload_n =>
    obtain ⟨v, hv, he⟩ := Option.map_eq_some_iff.mp h
    cases he
    have hv2 := mg_ldA_le hm hv
    exact ⟨_, by rw [hv2]; rfl, hm⟩
  case fload =>
    obtain ⟨v, hv, he⟩ := Option.map_eq_some_iff.mp h
    cases he
    have hv2 := mg_ldF_le hm hv
    exact ⟨_, by rw [hv2]; rfl, hm⟩
  case dload =>
    obtain ⟨v, hv, he⟩ := Option.map_eq_some_iff.mp h
    cases he
    have hv2 := mg_ldD_le hm hv
    exact ⟨_, by rw [hv2]; rfl, hm⟩
  case ldc =>
    split at h
    · cases h; exact ⟨_, rfl, hm⟩
    · cases h
  case ldc_w =>
    split at h
    · cases h; exact ⟨_, rfl, hm⟩
    · cases h
  case goto =>
    split at h
    · cases h; exact ⟨_, rfl, hm⟩
    · cases h
  case iadd =>
    split at h
    · cases h; exact ⟨_, rfl, hm⟩
    · cases h
  case isub =>
    split at h
    · cases h; exact ⟨_, rfl, hm⟩
    · cases h
  case imul =>
    split at h
    · cases h; exact ⟨_, rfl, hm⟩
    · cases h
  case iand =>
    split at h
    · cases h; exact ⟨_, rfl, hm⟩
    · cases h
  case ior =>
    split at h
    · cases h; exact ⟨_, rfl, hm⟩
    · cases h
  case ineg =>
    split at h
    · cases h; exact ⟨_, rfl, hm⟩
    · cases h
  case i2l =>
    split at h
    · cases h; exact ⟨_, rfl, hm⟩
    · cases h
  case i2c =>
    split at h
    · cases h; exact ⟨_, rfl, hm⟩
    · cases h
  case i2f =>
    split at h
    · cases h; exact ⟨_, rfl, hm⟩
    · cases h
  case i2d =>
    split at h
    · cases h; exact ⟨_, rfl, hm⟩
    · cases h
  case lcmp =>
    split at h
    · cases h; exact ⟨_, rfl, hm⟩
    · cases h
  case fcmp =>
    split at h
    · cases h; exact ⟨_, rfl, hm⟩
    · cases h
  case dcmp =>
    split at h
    · cases h; exact ⟨_, rfl, hm⟩
    · cases h
  case dup =>
    split at h
    · cases h; exact ⟨_, rfl, hm⟩
    · cases h; exact ⟨_, rfl, hm⟩
    · cases h
  case dup2 =>
    split at h
    · cases h; exact ⟨_, rfl, hm⟩
    · cases h; exact ⟨_, rfl, hm⟩
    · cases h
  case pop =>
    split at h
    · cases h; exact ⟨_, rfl, hm⟩
    · cases h; exact ⟨_, rfl, hm⟩
    · cases h
  case idiv =>
    split at h
    · split at h
      · cases h
      · next hc => cases h; exact ⟨_, by rw [if_neg hc], hm⟩
    · cases h
  case irem =>
    split at h
    · split at h
      · cases h
      · next hc => cases h; exact ⟨_, by rw [if_neg hc], hm⟩
    · cases h
  case f2d =>
    split at h
    · split at h
      · next hc => cases h; exact ⟨_, by rw [if_pos hc], hm⟩
      · cases h
    · cases h
  case fdiv =>
    split at h
    · split at h
      · next hc => cases h; exact ⟨_, by rw [if_pos hc], hm⟩
      · cases h
    · cases h
  case ddiv =>
    split at h
    · split at h
      · next hc => cases h; exact ⟨_, by rw [if_pos hc], hm⟩
      · cases h
    · cases h
  case istore =>
    split at h
    · split at h
      · next hc => cases h; exact ⟨_, by rw [if_pos (by rw [← hlen]; exact hc)], mg_le_st1 hm _ _⟩
      · cases h
    · cases h
  case istore_n =>
    split at h
    · split at h
      · next hc => cases h; exact ⟨_, by rw [if_pos (by rw [← hlen]; exact hc)], mg_le_st1 hm _ _⟩
      · cases h
    · cases h
  case astore =>
    split at h
    · split at h
      · next hc => cases h; exact ⟨_, by rw [if_pos (by rw [← hlen]; exact hc)], mg_le_st1 hm _ _⟩
      · cases h
    · cases h
  case astore_n =>
    split at h
    · split at h
      · next hc => cases h; exact ⟨_, by rw [if_pos (by rw [← hlen]; exact hc)], mg_le_st1 hm _ _⟩
      · cases h
    · cases h
  case fstore =>
    split at h
    · split at h
      · next hc => cases h; exact ⟨_, by rw [if_pos (by rw [← hlen]; exact hc)], mg_le_st1 hm _ _⟩
      · cases h
    · cases h
  case dstore =>
    split at h
    · split at h
      · next hc => cases h; exact ⟨_, by rw [if_pos (by rw [← hlen]; exact hc)], mg_le_st2 hm _ _⟩
      · cases h
    · cases h
  case iinc =>
    split at h
    · next x hx => cases h; exact ⟨_, by rw [mg_le_at hm hx], mg_le_st1 hm _ _⟩
    · cases h
  case fconst f =>
    match f, h with
    | 0, h => cases h; exact ⟨_, rfl, hm⟩
    | 1, h => cases h
    | 2, h => cases h
  case dconst f =>
    match f, h with
    | 0, h => cases h; exact ⟨_, rfl, hm⟩
    | 1, h => cases h
  case ifCond =>
    split at h
    · split at h <;> (unfold mg_br at h ⊢; cases h; exact ⟨_, rfl, hm⟩)
    · cases h
  case if_icmp =>
    split at h
    · split at h <;> (unfold mg_br at h ⊢; cases h; exact ⟨_, rfl, hm⟩)
    · cases h
  case tableswitch =>
    split at h
    · split at h
      · next hc => cases h; exact ⟨_, by rw [if_pos hc], hm⟩
      · next hc => obtain ⟨v, hv, he⟩ := Option.map_eq_some_iff.mp h; cases he; exact ⟨_, by rw [if_neg hc, hv]; rfl, hm⟩
    · cases h
  case getfield =>
    split at h
    · split at h
      · next hc1 =>
        split at h
        · next hc => obtain ⟨v, hv, he⟩ := Option.map_eq_some_iff.mp h; cases he; exact ⟨_, by (try rw [hc1]); (try dsimp only); rw [if_pos hc, hv]; rfl, hm⟩
        · cases h
      · cases h
    · cases h
  case putfield =>
    split at h
    · split at h
      · next hc1 =>
        split at h
        · next hc => cases h; exact ⟨_, by (try rw [hc1]); (try dsimp only); rw [if_pos hc], hm⟩
        · cases h
      · cases h
    · cases h
  case iaload =>
    split at h
    · obtain ⟨v, hv, he⟩ := Option.map_eq_some_iff.mp h; cases he; exact ⟨_, by rw [hv]; rfl, hm⟩
    · cases h
  case arraylength =>
    split at h
    · obtain ⟨v, hv, he⟩ := Option.map_eq_some_iff.mp h; cases he; exact ⟨_, by rw [hv]; rfl, hm⟩
    · cases h
  case caload =>
    split at h
    · split at h
      · next hc1 =>
        split at h
        · cases h
        · next hc => cases h; exact ⟨_, by (try rw [hc1]); (try dsimp only); rw [if_neg hc], hm⟩
      · cases h
    · cases h
  case laload =>
    split at h
    · split at h
      · next hc1 =>
        split at h
        · cases h
        · next hc => cases h; exact ⟨_, by (try rw [hc1]); (try dsimp only); rw [if_neg hc], hm⟩
      · cases h
    · cases h
  case daload =>
    split at h
    · split at h
      · next hc1 =>
        split at h
        · cases h
        · next hc => cases h; exact ⟨_, by (try rw [hc1]); (try dsimp only); rw [if_neg hc], hm⟩
      · cases h
    · cases h
  case iastore =>
    split at h
    · split at h
      · next hc1 =>
        split at h
        · cases h
        · next hc => cases h; exact ⟨_, by (try rw [hc1]); (try dsimp only); rw [if_neg hc], hm⟩
      · cases h
    · cases h
  case castore =>
    split at h
    · split at h
      · next hc1 =>
        split at h
        · cases h
        · next hc => cases h; exact ⟨_, by (try rw [hc1]); (try dsimp only); rw [if_neg hc], hm⟩
      · cases h
    · cases h
  case lastore =>
    split at h
    · split at h
      · next hc1 =>
        split at h
        · cases h
        · next hc => cases h; exact ⟨_, by (try rw [hc1]); (try dsimp only); rw [if_neg hc], hm⟩
      · cases h
    · cases h
  case dastore =>
    split at h
    · split at h
      · next hc1 =>
        split at h
        · cases h
        · next hc => cases h; exact ⟨_, by (try rw [hc1]); (try dsimp only); rw [if_neg hc], hm⟩
      · cases h
    · cases h
  case newarray =>
    split at h
    · split at h
      · cases h
      · next hc => obtain ⟨v, hv, he⟩ := Option.map_eq_some_iff.mp h; cases he; exact ⟨_, by rw [if_neg hc, hv]; rfl, hm⟩
    · cases h
  case new =>
    split at h
    · split at h
      · cases h
      · next hc => obtain ⟨v, hv, he⟩ := Option.map_eq_some_iff.mp h; cases he; exact ⟨_, by rw [if_neg hc, hv]; rfl, hm⟩
    · cases h
  case invokespecial =>
    split at h
    · split at h
      · next hc => cases h; exact ⟨_, by rw [if_pos hc], hm⟩
      · cases h
    · cases h
  case invokestatic =>
    split at h
    · split at h
      · next hc => cases h; exact ⟨_, by rw [if_pos hc], hm⟩
      · cases h
    · split at h
      · next hc => cases h; exact ⟨_, by rw [if_pos hc], hm⟩
      · cases h
    · split at h
      · next hc1 hc2 =>
        split at h
        · next hc => cases h; exact ⟨_, by (try rw [hc1, hc2]); (try dsimp only); rw [if_pos hc], hm⟩
        · cases h
      · cases h
    · cases h
end
section
theorem mg_run_more {sc : mg_Sc} : ∀ (n d mi pc : Nat) (loc lo2 : mg_L) (st : List Value) (w : mg_S) (r : mg_R), mg_run sc n d mi pc loc st w = some r → mg_le loc lo2 → mg_run sc n d mi pc lo2 st w = some r := by
  intro n
  induction n with
  | zero => intro d mi pc loc lo2 st w r h; cases h
  | succ n ih =>
    intro d mi pc loc lo2 st w r h hm
    unfold mg_run at h ⊢
    split at h
    · cases h
    · next e he =>
      try rw [he]
      try dsimp only
      split at h
      · next y as r9 hc =>
        try rw [hc]
        try dsimp only
        split at h
        · cases h
        · next d =>
          try dsimp only
          split at h
          · cases h
          · next hl =>
            try rw [if_neg hl]
            split at h
            · next v w1 h1 => (try simp only [h1]); exact ih _ _ _ _ _ _ _ _ h hm
            · next E w1 h1 =>
              (try simp only [h1])
              split at h
              · next hx => (try simp only [hx]); exact h
              · next q hx =>
                (try simp only [hx])
                refine ih _ _ _ _ _ _ _ _ h ?_
                exact mg_le_set (by rw [mg_kill_len, mg_kill_len, mg_le_len hm]) (fun _ _ hj => mg_le_kill hm _ hj) _ none
              · cases h
            · cases h
      · next hc =>
        try rw [hc]
        try dsimp only
        split at h
        · next r9 h9 => (try rw [h9]); exact h
        · next h9 =>
          try rw [h9]
          try dsimp only
          split at h
          · next pc' loc' st' w' h10 =>
            obtain ⟨pc0, ins, len, o⟩ := e
            obtain ⟨lo2', h8, h7⟩ := mg_step_more h10 hm
            rw [h8]
            exact ih _ _ _ _ _ _ _ _ h h7
          · cases h
section EV
variable {sc : mg_Sc} {d mi pc : Nat} {loc lo2 : mg_L} {st : List Value} {w : mg_S} {r : mg_R}
theorem mg_Ev.more (h : mg_Ev sc d mi pc loc st w r) (hm : mg_le loc lo2) : mg_Ev sc d mi pc lo2 st w r := by
  obtain ⟨n, h⟩ := h
  exact ⟨n, mg_run_more _ _ _ _ _ _ _ _ _ h hm⟩
theorem mg_Ev.deep (h : mg_Ev sc d mi pc loc st w r) {d' : Nat} (hd : d ≤ d') : mg_Ev sc d' mi pc loc st w r := by
  obtain ⟨n, h⟩ := h
  exact ⟨n, mg_run_le _ _ _ _ _ _ _ _ h n d' (Nat.le_refl _) hd⟩
/-- a stretch of rows that are no calls, no ends -/
def mg_go (sc : mg_Sc) (mi : Nat) : Nat → Nat × mg_L × List Value × mg_S → Option (Nat × mg_L × List Value × mg_S)
  | 0, s => some s
  | k + 1, (pc, loc, st, w) => match mg_at mi pc with
    | none => none
    | some e => match mg_call mg_cls e st w with
      | some _ => none
      | none => match mg_end (mg_ret mi) e st w with
        | some _ => none
        | none => match mg_step sc e loc st w with
          | some s => mg_go sc mi k s
          | none => none
theorem mg_Ev.go (k : Nat) {pc' : Nat} {loc' : mg_L} {st' : List Value} {w' : mg_S} (hg : mg_go sc mi k (pc, loc, st, w) = some (pc', loc', st', w')) (h : mg_Ev sc d mi pc' loc' st' w' r) : mg_Ev sc d mi pc loc st w r := by
  induction k generalizing pc loc st w with
  | zero => cases hg; exact h
  | succ k ih =>
    unfold mg_go at hg
    split at hg
    · cases hg
    · next e he =>
      split at hg
      · cases hg
      · next hc =>
        split at hg
        · cases hg
        · next hend =>
          split at hg
          · next s hs =>
            obtain ⟨p1, l1, s1, w1⟩ := s
            obtain ⟨n, hn⟩ := ih hg
            refine ⟨n + 1, ?_⟩
            unfold mg_run
            try rw [he]
            try dsimp only
            try rw [hc]
            try dsimp only
            rw [hend]
            try dsimp only
            rw [hs]
            exact hn
          · cases hg
/-- an end -/
theorem mg_Ev.fin {e : mg_E} (he : mg_at mi pc = some e) (hc : mg_call mg_cls e st w = none) (hend : mg_end (mg_ret mi) e st w = some r) : mg_Ev sc d mi pc loc st w r := by
  refine ⟨1, ?_⟩
  unfold mg_run
  try rw [he]
  try dsimp only
  try rw [hc]
  try dsimp only
  rw [hend]
/-- a call that comes back -/
theorem mg_Ev.call {e : mg_E} {y : Nat} {as rest : List Value} {v : Option Value} {w1 : mg_S} (he : mg_at mi pc = some e) (hc : mg_call mg_cls e st w = some (y, as, rest)) (hl : as.length ≤ mg_mlen y)
    (h1 : mg_Ev sc d y 0 (mg_entry y as) [] w (.inl v, w1)) (h : mg_Ev sc (d + 1) mi (pc + 3) loc (v.toList ++ rest) w1 r) : mg_Ev sc (d + 1) mi pc loc st w r := by
  obtain ⟨n1, h1⟩ := h1
  obtain ⟨n2, h2⟩ := h
  refine ⟨max n1 n2 + 1, ?_⟩
  unfold mg_run
  try rw [he]
  try dsimp only
  try rw [hc]
  try dsimp only
  have k1 := mg_run_le _ _ _ _ _ _ _ _ h1 (max n1 n2) d (Nat.le_max_left _ _) (Nat.le_refl _)
  rw [if_neg (Nat.not_lt.mpr hl)]
  simp only [k1]
  exact mg_run_le _ _ _ _ _ _ _ _ h2 (max n1 n2) (d + 1) (Nat.le_max_right _ _) (Nat.le_refl _)
/-- a call that throws, not caught here -/
theorem mg_Ev.callX {e : mg_E} {y : Nat} {as rest : List Value} {E : Nat} {w1 : mg_S} (he : mg_at mi pc = some e) (hc : mg_call mg_cls e st w = some (y, as, rest)) (hl : as.length ≤ mg_mlen y)
    (h1 : mg_Ev sc d y 0 (mg_entry y as) [] w (.inr E, w1)) (hx : mg_caught (mg_hx mi) (mg_nxt mi) pc E = none) : mg_Ev sc (d + 1) mi pc loc st w (.inr E, w1) := by
  obtain ⟨n1, h1⟩ := h1
  refine ⟨n1 + 1, ?_⟩
  unfold mg_run
  try rw [he]
  try dsimp only
  try rw [hc]
  try dsimp only
  rw [if_neg (Nat.not_lt.mpr hl)]
  simp only [h1, hx]
/-- .. caught here -/
theorem mg_Ev.callH {e : mg_E} {y : Nat} {as rest : List Value} {E i pc' : Nat} {w1 : mg_S} (he : mg_at mi pc = some e) (hc : mg_call mg_cls e st w = some (y, as, rest)) (hl : as.length ≤ mg_mlen y)
    (h1 : mg_Ev sc d y 0 (mg_entry y as) [] w (.inr E, w1)) (hx : mg_caught (mg_hx mi) (mg_nxt mi) pc E = some (some (i, pc'))) (h : mg_Ev sc (d + 1) mi pc' ((mg_kill loc i).set i none) [] w1 r) : mg_Ev sc (d + 1) mi pc loc st w r := by
  obtain ⟨n1, h1⟩ := h1
  obtain ⟨n2, h2⟩ := h
  refine ⟨max n1 n2 + 1, ?_⟩
  unfold mg_run
  try rw [he]
  try dsimp only
  try rw [hc]
  try dsimp only
  have k1 := mg_run_le _ _ _ _ _ _ _ _ h1 (max n1 n2) d (Nat.le_max_left _ _) (Nat.le_refl _)
  rw [if_neg (Nat.not_lt.mpr hl)]
  simp only [k1, hx]
  exact mg_run_le _ _ _ _ _ _ _ _ h2 (max n1 n2) (d + 1) (Nat.le_max_right _ _) (Nat.le_refl _)
/-- one row, by what it comes to -/
theorem mg_Ev.one {e : mg_E} (he : mg_at mi pc = some e) (hc : mg_call mg_cls e st w = none) (hend : mg_end (mg_ret mi) e st w = none) {pc' : Nat} {loc' : mg_L} {st' : List Value} {w' : mg_S} (hs : mg_step sc e loc st w = some (pc', loc', st', w')) (h : mg_Ev sc d mi pc' loc' st' w' r) : mg_Ev sc d mi pc loc st w r := by
  refine mg_Ev.go 1 (pc' := pc') (loc' := loc') (st' := st') (w' := w') ?_ h
  unfold mg_go
  try rw [he]
  try dsimp only
  try rw [hc]
  try dsimp only
  rw [hend]
  try dsimp only
  rw [hs]
  rfl
/-- a branch: what the row answers is an if -/
theorem mg_Ev.br {e : mg_E} {P : Prop} [Decidable P] {t nx : Nat} {st' : List Value} (he : mg_at mi pc = some e) (hc : mg_call mg_cls e st w = none) (hend : mg_end (mg_ret mi) e st w = none) (hs : mg_step sc e loc st w = some (if P then t else nx, loc, st', w)) (ht : P → mg_Ev sc d mi t loc st' w r) (hn : ¬ P → mg_Ev sc d mi nx loc st' w r) : mg_Ev sc d mi pc loc st w r := by
  by_cases h : P
  · rw [if_pos h] at hs
    exact mg_Ev.one he hc hend hs (ht h)
  · rw [if_neg h] at hs
    exact mg_Ev.one he hc hend hs (hn h)
/-- a row that wants a condition -/
theorem mg_Ev.need {e : mg_E} {P : Prop} [Decidable P] {pc' : Nat} {loc' : mg_L} {st' : List Value} {w' : mg_S} (hP : P) (he : mg_at mi pc = some e) (hc : mg_call mg_cls e st w = none) (hend : mg_end (mg_ret mi) e st w = none) (hs : mg_step sc e loc st w = if P then some (pc', loc', st', w') else none) (h : mg_Ev sc d mi pc' loc' st' w' r) : mg_Ev sc d mi pc loc st w r := by
  rw [if_pos hP] at hs
  exact mg_Ev.one he hc hend hs h
theorem mg_Ev.deny {e : mg_E} {P : Prop} [Decidable P] {pc' : Nat} {loc' : mg_L} {st' : List Value} {w' : mg_S} (hP : ¬ P) (he : mg_at mi pc = some e) (hc : mg_call mg_cls e st w = none) (hend : mg_end (mg_ret mi) e st w = none) (hs : mg_step sc e loc st w = if P then none else some (pc', loc', st', w')) (h : mg_Ev sc d mi pc' loc' st' w' r) : mg_Ev sc d mi pc loc st w r := by
  rw [if_neg hP] at hs
  exact mg_Ev.one he hc hend hs h
end EV
end
section
/-! HANDLERS; THE THEOREM -/
def mg_h1 (mi : Nat) (q : (Nat × Nat × Nat × Nat) × (Nat × Nat × Nat × Nat × Nat)) : Bool :=
  Nat.beq q.1.1 q.2.1 && Nat.beq q.1.2.1 q.2.2.1 && Nat.beq q.1.2.2.1 q.2.2.2.1 && Nat.blt q.2.2.2.2.1 6 && !Nat.beq q.1.2.2.2 0 && mg_hasw q.2.2.2.2.2 (.classLink (mg_own mi) q.1.2.2.2 (mg_exc q.2.2.2.2.1)) &&
  (match mg_at mi q.1.2.2.1, mg_nxt mi q.1.2.2.1 with
    | some (h, .astore k, _, _), some (k', h') => Nat.beq h q.1.2.2.1 && Nat.beq k k' && Nat.beq (h + 2) h' && Nat.blt k (mg_mlen mi)
    | some (h, .astore_n k, _, _), some (k', h') => Nat.beq h q.1.2.2.1 && Nat.beq k.val k' && Nat.beq (h + 1) h' && Nat.blt k.val (mg_mlen mi)
    | _, _ => false)
def mg_hok (mi : Nat) : Bool := Nat.beq (mg_hh mi).length (mg_hx mi).length && ((mg_hh mi).zip (mg_hx mi)).all (mg_h1 mi)
set_option maxRecDepth 100000 in
theorem mg_hok_all : (List.range 259).all mg_hok = true := by decide +kernel
set_option maxRecDepth 100000 in
theorem mg_len_infos : mg_infos.length = 259 := by decide +kernel
set_option maxRecDepth 100000 in
theorem mg_len_hxs : mg_hxs.length = 259 := by decide +kernel
theorem mg_hok_at (mi : Nat) : mg_hok mi = true := by
  by_cases h : mi < 259
  · exact List.all_eq_true.mp mg_hok_all mi (List.mem_range.mpr h)
  · have e1 : mg_hh mi = [] := by
      unfold mg_hh mg_i
      rw [List.getD_eq_getElem?_getD, List.getElem?_eq_none (by rw [mg_len_infos]; exact Nat.le_of_not_lt h)]
      rfl
    have e2 : mg_hx mi = [] := by
      unfold mg_hx
      rw [List.getD_eq_getElem?_getD, List.getElem?_eq_none (by rw [mg_len_hxs]; exact Nat.le_of_not_lt h)]
      rfl
    unfold mg_hok
    rw [e1, e2]
    rfl
theorem mg_cast {E : Nat} (h : E < 6) : mg_mem (.castable (mg_exc E) (mg_exc E)) = true := by
  match E, h with
  | 0, _ => decide +kernel
  | 1, _ => decide +kernel
  | 2, _ => decide +kernel
  | 3, _ => decide +kernel
  | 4, _ => decide +kernel
  | 5, _ => decide +kernel
def mg_fnd (pc E : Nat) (z : Nat × Nat × Nat × Nat × Nat) : Bool := Nat.ble z.1 pc && Nat.blt pc z.2.1 && Nat.beq z.2.2.2.1 E
theorem mg_split_table {mi pc E : Nat} : ∀ (hh : List (Nat × Nat × Nat × Nat)) (hx : List (Nat × Nat × Nat × Nat × Nat)), hh.length = hx.length → (hh.zip hx).all (mg_h1 mi) = true → ∀ z, hx.find? (mg_fnd pc E) = some z →
    ∃ (pre : List ExceptionTableEntry) (x : ExceptionTableEntry) (suf : List ExceptionTableEntry) (q : Nat × Nat × Nat × Nat), tableOf hh = pre ++ x :: suf ∧ mg_h1 mi (q, z) = true ∧ x = ⟨q.1, q.2.1, q.2.2.1, q.2.2.2⟩ ∧ covers x pc = true ∧ z.2.2.2.1 = E ∧
      ∀ y ∈ pre, covers y pc = false ∨ (y.catchType ≠ 0 ∧ ∃ F p, F < 6 ∧ F ≠ E ∧ mg_hasw p (.classLink (mg_own mi) y.catchType (mg_exc F)) = true) := by
  intro hh
  induction hh with
  | nil =>
    intro hx hl _ z hz
    cases hx with
    | nil => cases hz
    | cons a t => cases hl
  | cons q t ih =>
    intro hx hl ha z hz
    cases hx with
    | nil => cases hl
    | cons a u =>
      rw [List.zip_cons_cons, List.all_cons, Bool.and_eq_true] at ha
      have ha1 := ha.1
      unfold mg_h1 at ha1
      simp only [Bool.and_eq_true, Bool.not_eq_true'] at ha1
      obtain ⟨⟨⟨⟨⟨⟨g1, g2⟩, g3⟩, g4⟩, g5⟩, g6⟩, g7⟩ := ha1
      have e1 := Nat.eq_of_beq_eq_true g1
      have e2 := Nat.eq_of_beq_eq_true g2
      rw [List.find?_cons] at hz
      cases hf : mg_fnd pc E a with
      | true =>
        rw [hf] at hz
        cases hz
        unfold mg_fnd at hf
        simp only [Bool.and_eq_true] at hf
        obtain ⟨⟨f1, f2⟩, f3⟩ := hf
        refine ⟨[], ⟨q.1, q.2.1, q.2.2.1, q.2.2.2⟩, tableOf t, q, rfl, ha.1, rfl, ?_, Nat.eq_of_beq_eq_true f3, fun y hy => nomatch hy⟩
        unfold covers
        simp only [Bool.and_eq_true, decide_eq_true_eq]
        have k1 := Nat.le_of_ble_eq_true f1
        have k2 : pc < z.2.1 := by rwa [Nat.blt_eq] at f2
        exact ⟨by omega, by omega⟩
      | false =>
        rw [hf] at hz
        obtain ⟨pre, x, suf, q', h1, h2, h3, h4, h5, h6⟩ := ih u (by simpa using hl) ha.2 z hz
        refine ⟨⟨q.1, q.2.1, q.2.2.1, q.2.2.2⟩ :: pre, x, suf, q', by rw [List.cons_append, ← h1]; rfl, h2, h3, h4, h5, fun y hy => ?_⟩
        rcases List.mem_cons.mp hy with rfl | hy
        · by_cases hcv : covers (⟨q.1, q.2.1, q.2.2.1, q.2.2.2⟩ : ExceptionTableEntry) pc = false
          · exact Or.inl hcv
          · rw [Bool.not_eq_false] at hcv
            unfold covers at hcv
            simp only [Bool.and_eq_true, decide_eq_true_eq] at hcv
            refine Or.inr ⟨fun h0 => ?_, a.2.2.2.1, a.2.2.2.2, by rwa [Nat.blt_eq] at g4, fun hE => ?_, g6⟩
            · have h0 : q.2.2.2 = 0 := h0
              rw [h0] at g5
              cases g5
            · have : mg_fnd pc E a = true := by
                unfold mg_fnd
                simp only [Bool.and_eq_true]
                refine ⟨⟨Nat.ble_eq_true_of_le (by omega), by rw [Nat.blt_eq]; omega⟩, ?_⟩
                rw [hE]; exact Nat.beq_refl E
              rw [hf] at this
              cases this
        · exact h6 y hy
end
section
section MGA
variable {b n0 : Nat} {dT : Nat → ClassId} {D : va_G} {sc : mg_Sc} {l : Launch}
theorem mg_args_mem {vs : List Value} (hc : ∀ v ∈ vs, ¬ v.category = 2) : ∀ (i k : Nat) (v : Value), vs[i]? = some v → (k + i, v) ∈ lv_args k vs := by
  induction vs with
  | nil => intro i k v h; simp at h
  | cons a t ih =>
    intro i k v h
    have ha : ¬ a.category = 2 := hc a List.mem_cons_self
    unfold lv_args
    rw [if_neg ha]
    cases i with
    | zero =>
      rw [List.getElem?_cons_zero] at h
      cases h
      exact List.mem_cons_self
    | succ i =>
      rw [List.getElem?_cons_succ] at h
      have := ih (fun v hv => hc v (List.mem_cons_of_mem _ hv)) i (k + 1) v h
      rw [show k + (i + 1) = k + 1 + i by omega]
      exact List.mem_cons_of_mem _ this
theorem mg_sl_len {vs : List Value} (hc : ∀ v ∈ vs, ¬ v.category = 2) : (lg_sl vs).length = vs.length := by
  induction vs with
  | nil => rfl
  | cons a t ih =>
    have ha : ¬ a.category = 2 := hc a List.mem_cons_self
    have h2 := ih (fun v hv => hc v (List.mem_cons_of_mem _ hv))
    unfold lg_sl at h2 ⊢
    rw [List.flatMap_cons, if_neg ha, List.length_append, h2]
    simp [Nat.add_comm]
theorem mg_entry_Lo {y : Nat} {as : List Value} (hc : mg_cat1 as = true) (hl : as.length ≤ mg_mlen y) : mg_Lo b n0 ((lg_sl (as.map (mg_cv b n0)) ++ List.replicate (mg_mlen y - (lg_sl (as.map (mg_cv b n0))).length) Slot.unset).toArray) (mg_mlen y) (mg_entry y as) := by
  have hc' : ∀ v ∈ as.map (mg_cv b n0), ¬ v.category = 2 := by
    intro v hv
    obtain ⟨u, hu, rfl⟩ := List.mem_map.mp hv
    rw [mg_cv_cat]
    have := Nat.eq_of_beq_eq_true (List.all_eq_true.mp hc u hu)
    omega
  have h := lv_entry (as.map (mg_cv b n0)) (n := mg_mlen y) (by rw [mg_sl_len hc', List.length_map]; exact hl)
  refine ⟨h.1, h.2.1, ?_, fun i v hi => ?_⟩
  · unfold mg_entry
    rw [List.length_append, List.length_map, List.length_replicate]
    omega
  · unfold mg_entry at hi
    by_cases hil : i < as.length
    · rw [List.getElem?_append_left (by rw [List.length_map]; exact hil), List.getElem?_map] at hi
      obtain ⟨u, hu, he⟩ := Option.map_eq_some_iff.mp hi
      cases he
      have h2 := mg_args_mem hc' i 0 (mg_cv b n0 v) (by rw [List.getElem?_map, hu]; rfl)
      rw [Nat.zero_add] at h2
      exact h.2.2 _ h2
    · rw [List.getElem?_append_right (by rw [List.length_map]; omega), List.getElem?_replicate] at hi
      split at hi <;> cases hi
/-- from the body to the contract -/
theorem mg_met_of {d y n9 : Nat} {st9 : Bool} {as : List Value} {w : mg_S} {r : mg_R} (hm : mg_mchk y n9 st9 = true) (hnt : l.stackTraces = false) (hc : mg_cat1 as = true) (hl : as.length ≤ mg_mlen y) (hm1 : w.2.1 ≤ r.2.2.1) (hm2 : w.2.2 ≤ r.2.2.2)
    (S : ∀ {p : Program} {e : Env} {R : Room} {s : State} {m : MethodId} {args : Array Value} {below : List Frame} {meth : Method} {c : Code} {c0 z0 : Nat}, mg_X p l s m meth c y → mg_V b n0 dT D sc c0 s → d + 7 ≤ R.frames → 60 * d + 200 ≤ R.locals → r.2.2.1 ≤ c0 + R.cells → r.2.2.2 ≤ z0 + R.slots →
      mg_K p l e R s m args below meth c (vx_MQ below (mg_Qc b n0 dT D r) (mg_XC b n0 dT D r) args s (r.2.2.1 - c0) (r.2.2.2 - z0) (fun q => n0 ≤ q)) b n0 dT D (mg_mlen y) c0 z0 0 (mg_entry y as) [] w) : mg_Met b n0 dT D sc l d y as w r := by
  unfold mg_Met
  have hpn := (mg_mchk_spec hm).2.2.2.2.2
  have body : ∀ (p : Program) (e : Env) (s : State) (m : MethodId) (args : Array Value) (below : List Frame) (meth : Method) (c : Code), mg_X p l s m meth c y → mg_Pc b n0 dT D sc as w args s → W p l e (mg_rm d (r.2.2.1 - w.2.1) (r.2.2.2 - w.2.2)) s m args below meth c s.heap [] 0 0 (vx_MQ below (mg_Qc b n0 dT D r) (mg_XC b n0 dT D r) args s (r.2.2.1 - w.2.1) (r.2.2.2 - w.2.2) (fun q => n0 ≤ q)) (entryFrame m args (mg_mlen y)) := by
    intro p e s m args below meth c hX hP
    obtain ⟨rfl, hV, hWd⟩ := hP
    rw [lg_entry_eq]
    have K := S (p := p) (e := e) (R := mg_rm d (r.2.2.1 - w.2.1) (r.2.2.2 - w.2.2)) (s := s) (m := m) (args := (as.map (mg_cv b n0)).toArray) (below := below) (meth := meth) (c := c) (c0 := w.2.1) (z0 := w.2.2) hX hV (Nat.le_refl _) (Nat.le_refl _) (by show r.2.2.1 ≤ w.2.1 + (r.2.2.1 - w.2.1); omega) (by show r.2.2.2 ≤ w.2.2 + (r.2.2.2 - w.2.2); omega) s.heap [] _ hWd va_S.rf (mg_entry_Lo hc hl) (Nat.le_refl _) (Nat.le_refl _)
    rw [Nat.sub_self, Nat.sub_self] at K
    exact K
  by_cases hh : mg_hh y = []
  · rw [mg_code_hh hh]
    refine vx_ofW (cc := mg_B y) (maxL := mg_mlen y) (ret := mg_ret y) hpn rfl ?_
    intro p e s m args below meth c s₁ B hml htab hP
    refine body p e s m args below meth c ⟨B.exec, B.bytes, hml, findClass_of_methodNamed B.named, B.returns, B.notSynchronized, (name_of_methodNamed B.named B.method).1, ?_, hnt⟩ hP
    rw [hh]
    exact List.eq_nil_iff_forall_not_mem.mpr htab
  · rw [mg_code_hh2 hh]
    refine vx_ofWH (cc := mg_B y) (maxL := mg_mlen y) (ret := mg_ret y) (hh := mg_hh y) hpn rfl ?_
    intro p e s m args below meth c s₁ B hml hP
    have htab := vx_table (x := mg_N y) B (atoms_spec (ws := [Cond.codeWith (mg_N y) (mg_B y) (mg_mlen y) (mg_ret y) (mg_hh y)]) B.pre _ List.mem_cons_self)
    exact body p e s m args below meth c ⟨B.exec, B.bytes, hml, findClass_of_methodNamed B.named, B.returns, B.notSynchronized, (name_of_methodNamed B.named B.method).1, htab, hnt⟩ hP
theorem mg_call_facts {mi pc : Nat} {ins : Instr} {len : Nat} {o : List Nat} (hchk : mg_chk mi (pc, ins, len, o) = true) {st : List Value} {w : mg_S} {y : Nat} {as r : List Value} (hc : mg_call mg_cls (pc, ins, len, o) st w = some (y, as, r)) : (∃ n st9, mg_mchk y n st9 = true) ∧ mg_cat1 as = true := by
  obtain ⟨hd1, hd2, hrest⟩ := mg_chk_at hchk
  cases ins with
  | invokevirtual idx =>
    unfold mg_call at hc
    dsimp only at hc
    split at hc
    · next y9 n pl =>
      split at hc
      · split at hc
        · next hcond =>
          cases hc
          have hr2 : (mg_hasw pl (.methodLink (mg_own mi) idx (mg_N y)) && mg_mchk y n false && mg_hasw (mg_pl y 3) (.selects (mg_own y) (mg_N y) (mg_N y)) && decide (mg_hh y = []) && decide ((mg_cl[mg_cls y]?).map (fun q => q.1) = some (mg_own y))) = true := hrest
          simp only [Bool.and_eq_true] at hr2
          exact ⟨⟨n, false, hr2.1.1.1.2⟩, hcond.2.2⟩
        · cases hc
      · cases hc
    · cases hc
  | invokestatic idx =>
    unfold mg_call at hc
    dsimp only at hc
    split at hc
    · next k9 y9 n pl =>
      split at hc
      · split at hc
        · split at hc
          · next hcond =>
            cases hc
            have hr2 : (match (generalizing := false) k9 with
              | 0 => mg_hasw pl (.methodLink (mg_own mi) idx (mg_N y)) && decide (mg_hh y = [])
              | 1 => mg_hasw pl (.methodLinkNest (mg_own mi) idx (mg_N y) "CustomsDesk") && decide (mg_hh y = [])
              | 2 => mg_hasw pl (.methodLink (mg_own mi) idx (mg_N y)) && decide (mg_hh y ≠ [])
              | _ => false) = true ∧ mg_mchk y n true = true := by
              have h9 : ((match (generalizing := false) k9 with
              | 0 => mg_hasw pl (.methodLink (mg_own mi) idx (mg_N y)) && decide (mg_hh y = [])
              | 1 => mg_hasw pl (.methodLinkNest (mg_own mi) idx (mg_N y) "CustomsDesk") && decide (mg_hh y = [])
              | 2 => mg_hasw pl (.methodLink (mg_own mi) idx (mg_N y)) && decide (mg_hh y ≠ [])
              | _ => false) && mg_mchk y n true) = true := hrest
              rwa [Bool.and_eq_true] at h9
            exact ⟨⟨n, true, hr2.2⟩, hcond.2⟩
          · cases hc
        · cases hc
      · cases hc
    · cases hc
  | invokespecial idx =>
    unfold mg_call at hc
    dsimp only at hc
    split at hc
    · next k9 y9 n pl =>
      split at hc
      · split at hc
        · split at hc
          · next hcond =>
            cases hc
            have h9 : ((match (generalizing := false) k9 with
              | 0 => mg_hasw pl (.methodLink (mg_own mi) idx (mg_N y))
              | 1 => mg_hasw pl (.methodLinkNest (mg_own mi) idx (mg_N y) "CustomsDesk")
              | _ => false) && mg_mchk y n false && decide (mg_hh y = []) && decide ((mg_N y).name = "<init>") && decide (mg_ret y = none) && decide ((mg_cl[mg_cls y]?).map (fun q => q.1) = some (mg_own y))) = true := hrest
            simp only [Bool.and_eq_true] at h9
            exact ⟨⟨n, false, h9.1.1.1.1.2⟩, hcond.2.2⟩
          · cases hc
        · cases hc
      · cases hc
    · cases hc
  | _ => cases hc
end MGA
end
section
section MGA
variable {b n0 : Nat} {dT : Nat → ClassId} {D : va_G} {sc : mg_Sc} {l : Launch}
set_option maxHeartbeats 4000000 in
theorem mg_sound (hnt : l.stackTraces = false) : ∀ (n d mi pc : Nat) (loc : mg_L) (st : List Value) (w : mg_S) (r : mg_R), mg_run sc n d mi pc loc st w = some r →
    ∀ {p : Program} {e : Env} {R : Room} {s : State} {m : MethodId} {args : Array Value} {below : List Frame} {meth : Method} {c : Code} {c0 z0 : Nat}, mg_X p l s m meth c mi → mg_V b n0 dT D sc c0 s → d + 7 ≤ R.frames → 60 * d + 200 ≤ R.locals → r.2.2.1 ≤ c0 + R.cells → r.2.2.2 ≤ z0 + R.slots →
      mg_K p l e R s m args below meth c (vx_MQ below (mg_Qc b n0 dT D r) (mg_XC b n0 dT D r) args s (r.2.2.1 - c0) (r.2.2.2 - z0) (fun q => n0 ≤ q)) b n0 dT D (mg_mlen mi) c0 z0 pc loc st w := by
  intro n
  induction n with
  | zero => intro d mi pc loc st w r h; cases h
  | succ n ih =>
    intro d mi pc loc st w r h p e R s m args below meth c c0 z0 X V hRf hRl hRc hRz
    have hmono := mg_run_mono _ _ _ _ _ _ _ _ h
    unfold mg_run at h
    split at h
    · cases h
    · next e9 he9 =>
      obtain ⟨pc0, ins, len, o⟩ := e9
      obtain ⟨hpc, hchk⟩ := mg_ok he9
      have hpc : pc0 = pc := hpc
      subst hpc
      split at h
      · next y as r9 hc =>
        obtain ⟨⟨n9, st9, hm9⟩, hcat⟩ := mg_call_facts hchk hc
        split at h
        · cases h
        · next d =>
          split at h
          · cases h
          · next hlen =>
            have hlen : as.length ≤ mg_mlen y := Nat.le_of_not_lt hlen
            split at h
            · next v w1 h1 =>
              have a1 := mg_run_mono _ _ _ _ _ _ _ _ h1
              have a2 := mg_run_mono _ _ _ _ _ _ _ _ h
              have hM := mg_met_of (b := b) (n0 := n0) (dT := dT) (D := D) (sc := sc) (l := l) (d := d) hm9 hnt hcat hlen a1.1 a1.2 (fun hX hV q1 q2 q3 q4 => ih d y 0 (mg_entry y as) [] w (.inl v, w1) h1 hX hV q1 q2 q3 q4)
              intro H locs ls hW hS hL k1 k2
              refine mg_size fun hup => ?_
              have a11 : w.2.1 ≤ w1.2.1 := a1.1
              have a12 : w.2.2 ≤ w1.2.2 := a1.2
              have hV9 : s.heap.size ≤ n0 + c0 := V.2.2.2.2.2.2.2.2.2
              refine mg_callW (mg_call_run X V hchk (loc := loc) hc hM (by omega) (by omega) hW hS hL k1 k2 a1.1 a1.2 (Nat.le_trans a2.1 hRc) (Nat.le_trans a2.2 hRz) (by omega)) hS (c2 := w1.2.1 - c0) (z2 := w1.2.2 - z0) (by show w.2.1 - c0 + (w1.2.1 - w.2.1) = _; omega) (by show w.2.2 - z0 + (w1.2.2 - w.2.2) = _; omega) (fun k ce q9 H1 locs1 _ hk => by cases hk) (fun u H1 locs1 hu hW1 hS1 => ?_)
              cases hu
              have k9 := ih (d + 1) mi (pc0 + 3) loc (v.toList ++ r9) w1 r h (p := p) (e := e) (R := R) (s := s) (m := m) (args := args) (below := below) (meth := meth) (c := c) (c0 := c0) (z0 := z0) X V hRf hRl hRc hRz H1 locs1 ls hW1 hS1 hL (by omega) (by omega)
              have e5 : (v.toList ++ r9).map (mg_cv b n0) = (v.map (mg_cv b n0)).toList ++ r9.map (mg_cv b n0) := by
                rw [List.map_append]
                cases v <;> rfl
              rw [e5] at k9
              exact k9
            · next E w1 h1 =>
              have a1 := mg_run_mono _ _ _ _ _ _ _ _ h1
              have hM := mg_met_of (b := b) (n0 := n0) (dT := dT) (D := D) (sc := sc) (l := l) (d := d) hm9 hnt hcat hlen a1.1 a1.2 (fun hX hV q1 q2 q3 q4 => ih d y 0 (mg_entry y as) [] w (.inr E, w1) h1 hX hV q1 q2 q3 q4)
              intro H locs ls hW hS hL k1 k2
              refine mg_size fun hup => ?_
              have a11 : w.2.1 ≤ w1.2.1 := a1.1
              have a12 : w.2.2 ≤ w1.2.2 := a1.2
              have hV9 : s.heap.size ≤ n0 + c0 := V.2.2.2.2.2.2.2.2.2
              have hbnd : w1.2.1 ≤ r.2.2.1 ∧ w1.2.2 ≤ r.2.2.2 := by
                split at h
                · cases h; exact ⟨Nat.le_refl _, Nat.le_refl _⟩
                · exact mg_run_mono _ _ _ _ _ _ _ _ h
                · cases h
              refine mg_callW (mg_call_run X V hchk (loc := loc) hc hM (by omega) (by omega) hW hS hL k1 k2 a1.1 a1.2 (Nat.le_trans hbnd.1 hRc) (Nat.le_trans hbnd.2 hRz) (by omega)) hS (c2 := w1.2.1 - c0) (z2 := w1.2.2 - z0) (by show w.2.1 - c0 + (w1.2.1 - w.2.1) = _; omega) (by show w.2.2 - z0 + (w1.2.2 - w.2.2) = _; omega) (fun k ce q9 H1 locs1 hk6 hk hW1 hS1 hq9 hv9 hcl9 => ?_) (fun u H1 locs1 hu => by cases hu)
              cases hk
              obtain ⟨hx, hb, hml, hown, hret, hlocks, hname, htab, hnt9⟩ := id X
              have hhk := mg_hok_at mi
              unfold mg_hok at hhk
              rw [Bool.and_eq_true] at hhk
              have hhl := Nat.eq_of_beq_eq_true hhk.1
              split at h
              · next hcau =>
                cases h
                have hx0 : mg_hx mi = [] := by
                  unfold mg_caught at hcau
                  split at hcau
                  · assumption
                  · split at hcau <;> cases hcau
                have hh0 : mg_hh mi = [] := List.eq_nil_of_length_eq_zero (by rw [hhl, hx0]; rfl)
                refine vx_out (E := mg_exc E) (ce := ce) (fun x hx9 => by rw [htab, hh0] at hx9; cases hx9) hlocks hq9 hv9 hcl9 (fun t ht hal => ⟨⟨E, hk6, rfl, rfl⟩, by rw [ht]; exact hW1, hS1.F ht⟩) hS1.2.2 (Nat.le_refl _) (Nat.le_refl _)
              · next q hcau =>
                have hfz : ∃ z, (mg_hx mi).find? (mg_fnd pc0 E) = some z ∧ mg_nxt mi z.2.2.1 = some q := by
                  unfold mg_caught at hcau
                  split at hcau
                  · cases hcau
                  · split at hcau
                    · next z hz => exact ⟨z, hz, Option.some.inj hcau⟩
                    · cases hcau
                obtain ⟨z, hz, hzn⟩ := hfz
                obtain ⟨pre, x, suf, q4, t1, t2, t3, t4, t5, t6⟩ := mg_split_table (mg_hh mi) (mg_hx mi) hhl hhk.2 z hz
                unfold mg_h1 at t2
                simp only [Bool.and_eq_true, Bool.not_eq_true'] at t2
                obtain ⟨⟨⟨⟨⟨⟨g1, g2⟩, g3⟩, g4⟩, g5⟩, g6⟩, g7⟩ := t2
                have e3 := Nat.eq_of_beq_eq_true g3
                have e3 : q4.2.2.1 = z.2.2.1 := e3
                have t5 : z.2.2.2.1 = E := t5
                rw [e3, hzn] at g7
                try dsimp only at g6
                rw [t5] at g6
                have hnc := V.2.2.2.1
                refine vx_catch (own := mg_own mi) (name := mg_exc E) (E := mg_exc E) hown pre x suf (by rw [htab]; exact t1) (fun y hy => ?_) t4 (fun h0 => ?_) (by rw [t3]; exact V.1.use g6 args) (V.1.useM (mg_cast hk6) args) hq9 hv9 hcl9 ?_
                · rcases t6 y hy with h9 | ⟨h8, F, p9, hF6, hFE, hw9⟩
                  · exact Or.inl h9
                  · exact Or.inr ⟨h8, mg_exc F, V.1.use hw9 args, hnc E F hk6 hF6 (fun q => hFE q.symm)⟩
                · rw [t3] at h0
                  have h0 : q4.2.2.2 = 0 := h0
                  rw [h0] at g5
                  cases g5
                · have hxh : x.handlerPc = z.2.2.1 := by rw [t3]; exact e3
                  rw [hxh]
                  have k9 := ih (d + 1) mi q.2 ((mg_kill loc q.1).set q.1 none) [] w1 r h (p := p) (e := e) (R := R) (s := s) (m := m) (args := args) (below := below) (meth := meth) (c := c) (c0 := c0) (z0 := z0) X V hRf hRl hRc hRz H1 locs1
                  split at g7
                  · next hh k len9 o9 k' h' hat heq =>
                    cases heq
                    simp only [Bool.and_eq_true] at g7
                    obtain ⟨⟨⟨u0, u1⟩, u2⟩, u3⟩ := g7
                    obtain ⟨hp9, hck9⟩ := mg_ok hat
                    have hd9 := (mg_chk_at hck9).1 rfl
                    have v1 := Nat.eq_of_beq_eq_true u1
                    have v2 := Nat.eq_of_beq_eq_true u2
                    have hp9 : hh = z.2.2.1 := hp9
                    subst hp9
                    subst v1
                    subst v2
                    exact lv_astore (lv := mg_lv b n0 loc) hx hb hd9 hL.has (by rwa [Nat.blt_eq] at u3) rfl (fun ls' h' => k9 ls' hW1 hS1 (hL.forget1 h') (by omega) (by omega))
                  · next hh k len9 o9 k' h' hat heq =>
                    cases heq
                    simp only [Bool.and_eq_true] at g7
                    obtain ⟨⟨⟨u0, u1⟩, u2⟩, u3⟩ := g7
                    obtain ⟨hp9, hck9⟩ := mg_ok hat
                    have hd9 := (mg_chk_at hck9).1 rfl
                    have v1 := Nat.eq_of_beq_eq_true u1
                    have v2 := Nat.eq_of_beq_eq_true u2
                    have hp9 : hh = z.2.2.1 := hp9
                    subst hp9
                    subst v1
                    subst v2
                    exact lv_astore_n (lv := mg_lv b n0 loc) hx hb hd9 rfl hL.has (by rwa [Nat.blt_eq] at u3) rfl (fun ls' h' => k9 ls' hW1 hS1 (hL.forget1 h') (by omega) (by omega))
                  · cases g7
              · cases h
            · cases h
      · split at h
        · next r9 h9 =>
          cases h
          exact mg_end_sound X V hchk h9 (by omega) (by omega) hRc hRz
        · split at h
          · next pc' loc' st' w' h9 =>
            have a2 := mg_run_mono _ _ _ _ _ _ _ _ h
            exact mg_step_sound X V hchk h9 (by omega) (by omega) (Nat.le_trans a2.1 hRc) (Nat.le_trans a2.2 hRz) (ih d mi pc' loc' st' w' r h X V hRf hRl hRc hRz)
          · cases h
end MGA
end
section
/-! rules of their own -/
section RUL
variable {sc : mg_Sc} {d mi pc : Nat} {loc : mg_L} {w : mg_S} {r : mg_R} {st0 : List Value}
theorem mg_Ev.iald {a n j : Nat} {i : Int32} {f : Nat → Int32} (he : mg_at mi pc = some (pc, .iaload, 1, [])) (hcell : w.1[a]? = some (.inl (0, n, .inl f))) (hj : i.toNatClampNeg = j) (hb : ¬ (i < 0 ∨ n ≤ i.toNatClampNeg)) (h : mg_Ev sc d mi (pc + 1) loc (.int (f j) :: st0) w r) : mg_Ev sc d mi pc loc (.int i :: .ref (a + 1) :: st0) w r := by
  subst hj
  refine mg_Ev.one he rfl rfl ?_ h
  show Option.map _ (mg_iald sc w (a + 1) i) = _
  unfold mg_iald
  try dsimp only
  rw [hcell]
  exact congrArg (Option.map fun v => (pc + 1, loc, v :: st0, w)) (if_neg hb)
theorem mg_Ev.sld {i : Int32} (he : mg_at mi pc = some (pc, .iaload, 1, [])) (hb : ¬ (i < 0 ∨ sc.1 ≤ i.toNatClampNeg)) (h : mg_Ev sc d mi (pc + 1) loc (.int (sc.2 i.toNatClampNeg) :: st0) w r) : mg_Ev sc d mi pc loc (.int i :: .ref 0 :: st0) w r := by
  refine mg_Ev.one he rfl rfl ?_ h
  show Option.map _ (mg_iald sc w 0 i) = _
  unfold mg_iald
  try dsimp only
  rw [if_neg hb]
  rfl
theorem mg_Ev.cald {a n j : Nat} {i : Int32} {f : Nat → Int32} (he : mg_at mi pc = some (pc, .caload, 1, [])) (hcell : w.1[a]? = some (.inl (1, n, .inl f))) (hj : i.toNatClampNeg = j) (hb : ¬ (i < 0 ∨ n ≤ i.toNatClampNeg)) (h : mg_Ev sc d mi (pc + 1) loc (.int (f j) :: st0) w r) : mg_Ev sc d mi pc loc (.int i :: .ref (a + 1) :: st0) w r := by
  subst hj
  refine mg_Ev.one he rfl rfl ?_ h
  unfold mg_step
  try dsimp only
  rw [hcell]
  exact if_neg hb
theorem mg_Ev.lald {a n j : Nat} {i : Int32} {f : Nat → Int64} (he : mg_at mi pc = some (pc, .laload, 1, [])) (hcell : w.1[a]? = some (.inl (2, n, .inr (.inl f)))) (hj : i.toNatClampNeg = j) (hb : ¬ (i < 0 ∨ n ≤ i.toNatClampNeg)) (h : mg_Ev sc d mi (pc + 1) loc (.long (f j) :: st0) w r) : mg_Ev sc d mi pc loc (.int i :: .ref (a + 1) :: st0) w r := by
  subst hj
  refine mg_Ev.one he rfl rfl ?_ h
  unfold mg_step
  try dsimp only
  rw [hcell]
  exact if_neg hb
theorem mg_Ev.dald {a n j : Nat} {i : Int32} {f : Nat → UInt64} (he : mg_at mi pc = some (pc, .daload, 1, [])) (hcell : w.1[a]? = some (.inl (3, n, .inr (.inr (.inr (.inl f)))))) (hj : i.toNatClampNeg = j) (hb : ¬ (i < 0 ∨ n ≤ i.toNatClampNeg)) (h : mg_Ev sc d mi (pc + 1) loc (.double (f j) :: st0) w r) : mg_Ev sc d mi pc loc (.int i :: .ref (a + 1) :: st0) w r := by
  subst hj
  refine mg_Ev.one he rfl rfl ?_ h
  unfold mg_step
  try dsimp only
  rw [hcell]
  exact if_neg hb
theorem mg_Ev.iast {a n j : Nat} {i x : Int32} {f : Nat → Int32} {w' : mg_S} (he : mg_at mi pc = some (pc, .iastore, 1, [])) (hcell : w.1[a]? = some (.inl (0, n, .inl f))) (hj : i.toNatClampNeg = j) (hb : ¬ (i < 0 ∨ n ≤ i.toNatClampNeg)) (hw : mg_upc w a (.inl (0, n, .inl (upd f j x))) = w') (h : mg_Ev sc d mi (pc + 1) loc st0 w' r) : mg_Ev sc d mi pc loc (.int x :: .int i :: .ref (a + 1) :: st0) w r := by
  subst hj
  subst hw
  refine mg_Ev.one he rfl rfl ?_ h
  unfold mg_step
  try dsimp only
  rw [hcell]
  exact if_neg hb
theorem mg_Ev.cast {a n j : Nat} {i x : Int32} {f : Nat → Int32} {w' : mg_S} (he : mg_at mi pc = some (pc, .castore, 1, [])) (hcell : w.1[a]? = some (.inl (1, n, .inl f))) (hj : i.toNatClampNeg = j) (hb : ¬ (i < 0 ∨ n ≤ i.toNatClampNeg)) (hw : mg_upc w a (.inl (1, n, .inl (upd f j (vp_nar .char x)))) = w') (h : mg_Ev sc d mi (pc + 1) loc st0 w' r) : mg_Ev sc d mi pc loc (.int x :: .int i :: .ref (a + 1) :: st0) w r := by
  subst hj
  subst hw
  refine mg_Ev.one he rfl rfl ?_ h
  unfold mg_step
  try dsimp only
  rw [hcell]
  exact if_neg hb
theorem mg_Ev.last {a n j : Nat} {i : Int32} {x : Int64} {f : Nat → Int64} {w' : mg_S} (he : mg_at mi pc = some (pc, .lastore, 1, [])) (hcell : w.1[a]? = some (.inl (2, n, .inr (.inl f)))) (hj : i.toNatClampNeg = j) (hb : ¬ (i < 0 ∨ n ≤ i.toNatClampNeg)) (hw : mg_upc w a (.inl (2, n, .inr (.inl (vp_updL f j x)))) = w') (h : mg_Ev sc d mi (pc + 1) loc st0 w' r) : mg_Ev sc d mi pc loc (.long x :: .int i :: .ref (a + 1) :: st0) w r := by
  subst hj
  subst hw
  refine mg_Ev.one he rfl rfl ?_ h
  unfold mg_step
  try dsimp only
  rw [hcell]
  exact if_neg hb
theorem mg_Ev.dast {a n j : Nat} {i : Int32} {x : UInt64} {f : Nat → UInt64} {w' : mg_S} (he : mg_at mi pc = some (pc, .dastore, 1, [])) (hcell : w.1[a]? = some (.inl (3, n, .inr (.inr (.inr (.inl f)))))) (hj : i.toNatClampNeg = j) (hb : ¬ (i < 0 ∨ n ≤ i.toNatClampNeg)) (hw : mg_upc w a (.inl (3, n, .inr (.inr (.inr (.inl (vf_upd f j x)))))) = w') (h : mg_Ev sc d mi (pc + 1) loc st0 w' r) : mg_Ev sc d mi pc loc (.double x :: .int i :: .ref (a + 1) :: st0) w r := by
  subst hj
  subst hw
  refine mg_Ev.one he rfl rfl ?_ h
  unfold mg_step
  try dsimp only
  rw [hcell]
  exact if_neg hb
theorem mg_Ev.idiv {x y : Int32} (he : mg_at mi pc = some (pc, .idiv, 1, [])) (hy : ¬ y = 0) (h : mg_Ev sc d mi (pc + 1) loc (.int (x / y) :: st0) w r) : mg_Ev sc d mi pc loc (.int y :: .int x :: st0) w r := by
  refine mg_Ev.one he rfl rfl ?_ h
  unfold mg_step
  try dsimp only
  rw [if_neg hy]
theorem mg_Ev.irem {x y : Int32} (he : mg_at mi pc = some (pc, .irem, 1, [])) (hy : ¬ y = 0) (h : mg_Ev sc d mi (pc + 1) loc (.int (x - x / y * y) :: st0) w r) : mg_Ev sc d mi pc loc (.int y :: .int x :: st0) w r := by
  refine mg_Ev.one he rfl rfl ?_ h
  unfold mg_step
  try dsimp only
  rw [if_neg hy]
theorem mg_Ev.putz {e : mg_E} {v : Int32} {pc' : Nat} {a : Nat} {W9 : Int32 → mg_S} (hv : v = 0 ∨ v = 1) (he : mg_at mi pc = some e) (hc : ∀ st9 : List Value, mg_call mg_cls e st9 w = none) (hend : ∀ st9 : List Value, mg_end (mg_ret mi) e st9 w = none)
    (hs : ∀ zz : Int32, (zz = 0 ∨ zz = 1) → mg_step sc e loc (.int zz :: .ref a :: st0) w = some (pc', loc, st0, W9 zz)) (h : mg_Ev sc d mi pc' loc st0 (W9 v) r) : mg_Ev sc d mi pc loc (.int v :: .ref a :: st0) w r := mg_Ev.one he (hc _) (hend _) (hs v hv) h
theorem mg_Ev.zret {v : Int32} (he : mg_at mi pc = some (pc, .ireturn, 1, [])) (hret : mg_ret mi = some .boolean) (hr : (Sum.inl (some (Value.int v)), w) = r) (hv : v = 0 ∨ v = 1) : mg_Ev sc d mi pc loc [.int v] w r := by
  subst hr
  refine mg_Ev.fin he rfl ?_
  rw [hret]
  unfold mg_end
  try dsimp only
  rw [if_pos hv]
theorem mg_Ev.swD {x : Int32} {df lo hi : Int} {offs : Array Int} {len dt : Nat} {ts : List Nat} (he : mg_at mi pc = some (pc, .tableswitch df lo hi offs, len, dt :: ts)) (hx : x.toInt < lo ∨ hi < x.toInt) (h : mg_Ev sc d mi dt loc st0 w r) : mg_Ev sc d mi pc loc (.int x :: st0) w r := by
  refine mg_Ev.one he rfl rfl ?_ h
  unfold mg_step
  try dsimp only
  rw [if_pos hx]
theorem mg_Ev.swK {x k : Int32} {df lo hi : Int} {offs : Array Int} {len dt t : Nat} {ts : List Nat} (he : mg_at mi pc = some (pc, .tableswitch df lo hi offs, len, dt :: ts)) (hx : x = k) (h1 : ¬ k.toInt < lo) (h2 : ¬ hi < k.toInt) (ht : ts[(k.toInt - lo).toNat]? = some t) (h : mg_Ev sc d mi t loc st0 w r) : mg_Ev sc d mi pc loc (.int x :: st0) w r := by
  subst hx
  refine mg_Ev.one he rfl rfl ?_ h
  unfold mg_step
  try dsimp only
  rw [if_neg (fun q => q.elim h1 h2), ht]
  rfl
theorem mg_Ev.copy {n dp sp : Int32} {a0 a1 n0 n1 len q9 p9 : Nat} {f g : Nat → Int32} {w' : mg_S} (he : mg_at mi pc = some (pc, .invokestatic q9, len, [5, p9])) (h0 : w.1[a0]? = some (.inl (0, n0, .inl f))) (h1 : w.1[a1]? = some (.inl (0, n1, .inl g)))
    (hb : ¬ sp < 0 ∧ ¬ dp < 0 ∧ ¬ n < 0 ∧ sp.toNatClampNeg + n.toNatClampNeg ≤ n0 ∧ dp.toNatClampNeg + n.toNatClampNeg ≤ n1) (hw : mg_upc w a1 (.inl (0, n1, .inl (va_cpy f g sp.toNatClampNeg dp.toNatClampNeg n.toNatClampNeg))) = w') (h : mg_Ev sc d mi (pc + 3) loc [] w' r) :
    mg_Ev sc d mi pc loc [.int n, .int dp, .ref (a1 + 1), .int sp, .ref (a0 + 1)] w r := by
  subst hw
  refine mg_Ev.one he rfl rfl ?_ h
  unfold mg_step
  simp only [h0, h1]
  exact if_pos ⟨Nat.zero_le _, hb⟩
end RUL
end
section
/-! THE REGISTERS: u k i is the place i of cell k -/
abbrev mg_Rg : Type := Nat → Nat → Int32
def mg_rw (u : mg_Rg) (k : Nat) (f : Nat → Int32) : mg_Rg := fun j => if j = k then f else u j
def mg_up (u : mg_Rg) (k i : Nat) (v : Int32) : mg_Rg := fun j => if j = k then upd (u k) i v else u j
def mg_F : Nat := 6000
def hp (u : mg_Rg) (fL : Nat → Int64) (fD : Nat → UInt64) : List mg_C := [.inr (7, [.ref 2, .ref 3, .ref 16, .ref 30, .ref 34, .ref 38, .int (u 0 6), .int (u 0 7), .int (u 0 8), .int (u 0 9)]), .inr (2, [.ref 3, .ref 16, .ref 23, .ref 26, .ref 29]), .inr (5, [.ref 4, .ref 7, .ref 10, .ref 13]), .inr (4, [.int 20, .int 3, .ref 5, .ref 6]), .inl (0, 61, .inl (u 4)), .inl (0, 549, .inl (u 5)), .inr (4, [.int 10, .int 4, .ref 8, .ref 9]), .inl (0, 41, .inl (u 7)), .inl (0, 369, .inl (u 8)), .inr (4, [.int 6, .int 3, .ref 11, .ref 12]), .inl (0, 19, .inl (u 10)), .inl (0, 171, .inl (u 11)), .inr (4, [.int 3, .int 1, .ref 14, .ref 15]), .inl (0, 4, .inl (u 13)), .inl (0, 36, .inl (u 14)), .inr (1, [.ref 17, .ref 20]), .inr (4, [.int 3, .int 1, .ref 18, .ref 19]), .inl (0, 4, .inl (u 17)), .inl (0, 36, .inl (u 18)), .inr (4, [.int 8, .int 1, .ref 21, .ref 22]), .inl (0, 9, .inl (u 20)), .inl (0, 81, .inl (u 21)), .inr (4, [.int 6, .int 9, .ref 24, .ref 25]), .inl (0, 55, .inl (u 23)), .inl (0, 495, .inl (u 24)), .inr (4, [.int 30, .int 15, .ref 27, .ref 28]), .inl (0, 451, .inl (u 26)), .inl (0, 4059, .inl (u 27)), .inr (0, [.int (u 28 0), .int (u 28 1), .int (u 28 2), .int (u 28 3), .int (u 28 4)]), .inr (3, [.ref 31]), .inr (4, [.int 4, .int 2, .ref 32, .ref 33]), .inl (0, 9, .inl (u 31)), .inl (0, 81, .inl (u 32)), .inr (3, [.ref 35]), .inr (4, [.int 4, .int 2, .ref 36, .ref 37]), .inl (0, 9, .inl (u 35)), .inl (0, 0, .inl (u 36)), .inr (6, [.ref 39, .ref 40, .int (u 37 2), .int (u 37 3), .int (u 37 4)]), .inl (1, 60, .inl (u 38)), .inr (4, [.int 8, .int 13, .ref 41, .ref 42]), .inl (0, 105, .inl (u 40)), .inl (0, 0, .inl (u 41)), .inr (8, [.int (u 42 0), .ref 44, .ref 45, .int (u 42 3), .ref 46, .int (u 42 5), .ref 47, .int (u 42 7), .int (u 42 8), .ref 48, .int (u 42 10), .int (u 42 11), .ref 49, .int (u 42 13), .int (u 42 14), .ref 50]), .inl (0, 690, .inl (u 43)), .inl (0, 5520, .inl (u 44)), .inl (0, 690, .inl (u 45)), .inl (0, 690, .inl (u 46)), .inl (1, 60, .inl (u 47)), .inl (0, 30, .inl (u 48)), .inl (0, 840, .inl (u 49)), .inl (2, 1, .inr (.inl fL)), .inl (3, 1, .inr (.inr (.inr (.inl fD))))]
def xri (t : Int32 ⊕ Nat) : Option Value ⊕ Nat := match t with
  | .inl v => .inl (some (.int v))
  | .inr e => .inr e
def xru (t : Unit ⊕ Nat) : Option Value ⊕ Nat := match t with
  | .inl _ => .inl none
  | .inr e => .inr e
def xrr (k : Nat) (t : Unit ⊕ Nat) : Option Value ⊕ Nat := match t with
  | .inl _ => .inl (some (.ref k))
  | .inr e => .inr e
def xrd (t : UInt64 ⊕ Nat) : Option Value ⊕ Nat := match t with
  | .inl v => .inl (some (.double v))
  | .inr e => .inr e
def xrf (t : UInt32 ⊕ Nat) : Option Value ⊕ Nat := match t with
  | .inl v => .inl (some (.float v))
  | .inr e => .inr e
def xw {α : Type} (t : α ⊕ Nat) (l : List mg_C) (c z : Nat) : mg_S := match t with
  | .inl _ => (l, c, z)
  | .inr _ => (l, c + 1, z + 6)
end
section
def T_get_3 (a0 : Int32) (a1 : Int32) (u : mg_Rg) : Option (Int32) :=
  if a0 < 0 then
  some 0
  else
  if 20 ≤ a0 then
    some 0
    else
    if a1 < 0 then
      some 0
      else
      if a1 < 3 then
        if ((1 + (a0 * 3)) + a1) < 0 then
          some 0
          else
          if 61 ≤ ((1 + (a0 * 3)) + a1) then
            some 0
            else
            if ((1 + (a0 * 3)) + a1) < 0 ∨ 61 ≤ ((1 + (a0 * 3)) + a1).toNatClampNeg then none else
              some (u 4 (((1 + (a0 * 3)) + a1).toNatClampNeg))
        else
        some 0

set_option maxRecDepth 10000 in
set_option maxHeartbeats 4000000 in
theorem ev_T_get_3 {sc : mg_Sc} {c z : Nat} {fL : Nat → Int64} {fD : Nat → UInt64} {a0 : Int32} {a1 : Int32} {u : mg_Rg} {v : Int32} (h : T_get_3 a0 a1 u = some v) : mg_Ev sc 0 184 0 (mg_entry 184 [.ref 4, .int a0, .int a1]) [] (hp u fL fD, c, z) (.inl (some (.int v)), (hp u fL fD, c, z)) := by
  unfold T_get_3 at h
  show mg_Ev _ _ _ 0 [some (.ref 4), some (.int a0), some (.int a1), none] [] _ _
  refine mg_Ev.go 1 (pc' := 1) (loc' := [some (.ref 4), some (.int a0), some (.int a1), none]) (st' := [.int a0]) (w' := (hp u fL fD, c, z)) rfl ?_
  refine mg_Ev.br (P := a0 < 0) (t := 24) (nx := 4) (st' := []) rfl rfl rfl rfl (fun hc1 => ?_) (fun hc1 => ?_)
  · rw [if_pos hc1] at h
    refine mg_Ev.go 1 (pc' := 25) (loc' := [some (.ref 4), some (.int a0), some (.int a1), none]) (st' := [.int 0]) (w' := (hp u fL fD, c, z)) rfl ?_
    cases h
    exact mg_Ev.fin rfl rfl rfl
  · rw [if_neg hc1] at h
    refine mg_Ev.go 3 (pc' := 9) (loc' := [some (.ref 4), some (.int a0), some (.int a1), none]) (st' := [.int 20, .int a0]) (w' := (hp u fL fD, c, z)) rfl ?_
    refine mg_Ev.br (P := 20 ≤ a0) (t := 24) (nx := 12) (st' := []) rfl rfl rfl rfl (fun hc2 => ?_) (fun hc2 => ?_)
    · rw [if_pos hc2] at h
      refine mg_Ev.go 1 (pc' := 25) (loc' := [some (.ref 4), some (.int a0), some (.int a1), none]) (st' := [.int 0]) (w' := (hp u fL fD, c, z)) rfl ?_
      cases h
      exact mg_Ev.fin rfl rfl rfl
    · rw [if_neg hc2] at h
      refine mg_Ev.go 1 (pc' := 13) (loc' := [some (.ref 4), some (.int a0), some (.int a1), none]) (st' := [.int a1]) (w' := (hp u fL fD, c, z)) rfl ?_
      refine mg_Ev.br (P := a1 < 0) (t := 24) (nx := 16) (st' := []) rfl rfl rfl rfl (fun hc3 => ?_) (fun hc3 => ?_)
      · rw [if_pos hc3] at h
        refine mg_Ev.go 1 (pc' := 25) (loc' := [some (.ref 4), some (.int a0), some (.int a1), none]) (st' := [.int 0]) (w' := (hp u fL fD, c, z)) rfl ?_
        cases h
        exact mg_Ev.fin rfl rfl rfl
      · rw [if_neg hc3] at h
        refine mg_Ev.go 3 (pc' := 21) (loc' := [some (.ref 4), some (.int a0), some (.int a1), none]) (st' := [.int 3, .int a1]) (w' := (hp u fL fD, c, z)) rfl ?_
        refine mg_Ev.br (P := a1 < 3) (t := 26) (nx := 24) (st' := []) rfl rfl rfl rfl (fun hc4 => ?_) (fun hc4 => ?_)
        · rw [if_pos hc4] at h
          refine mg_Ev.go 10 (pc' := 38) (loc' := [some (.ref 4), some (.int a0), some (.int a1), some (.int ((1 + (a0 * 3)) + a1))]) (st' := [.int ((1 + (a0 * 3)) + a1)]) (w' := (hp u fL fD, c, z)) rfl ?_
          refine mg_Ev.br (P := ((1 + (a0 * 3)) + a1) < 0) (t := 59) (nx := 41) (st' := []) rfl rfl rfl rfl (fun hc5 => ?_) (fun hc5 => ?_)
          · rw [if_pos hc5] at h
            refine mg_Ev.go 1 (pc' := 60) (loc' := [some (.ref 4), some (.int a0), some (.int a1), some (.int ((1 + (a0 * 3)) + a1))]) (st' := [.int 0]) (w' := (hp u fL fD, c, z)) rfl ?_
            cases h
            exact mg_Ev.fin rfl rfl rfl
          · rw [if_neg hc5] at h
            refine mg_Ev.go 4 (pc' := 47) (loc' := [some (.ref 4), some (.int a0), some (.int a1), some (.int ((1 + (a0 * 3)) + a1))]) (st' := [.int 61, .int ((1 + (a0 * 3)) + a1)]) (w' := (hp u fL fD, c, z)) rfl ?_
            refine mg_Ev.br (P := 61 ≤ ((1 + (a0 * 3)) + a1)) (t := 59) (nx := 50) (st' := []) rfl rfl rfl rfl (fun hc6 => ?_) (fun hc6 => ?_)
            · rw [if_pos hc6] at h
              refine mg_Ev.go 1 (pc' := 60) (loc' := [some (.ref 4), some (.int a0), some (.int a1), some (.int ((1 + (a0 * 3)) + a1))]) (st' := [.int 0]) (w' := (hp u fL fD, c, z)) rfl ?_
              cases h
              exact mg_Ev.fin rfl rfl rfl
            · rw [if_neg hc6] at h
              refine mg_Ev.go 3 (pc' := 55) (loc' := [some (.ref 4), some (.int a0), some (.int a1), some (.int ((1 + (a0 * 3)) + a1))]) (st' := [.int ((1 + (a0 * 3)) + a1), .ref 5]) (w' := (hp u fL fD, c, z)) rfl ?_
              by_cases hb7 : ((1 + (a0 * 3)) + a1) < 0 ∨ 61 ≤ ((1 + (a0 * 3)) + a1).toNatClampNeg
              · rw [if_pos hb7] at h
                cases h
              · rw [if_neg hb7] at h
                refine mg_Ev.iald (a := 4) (n := 61) (f := u 4) rfl rfl rfl hb7 ?_
                refine mg_Ev.go 1 (pc' := 60) (loc' := [some (.ref 4), some (.int a0), some (.int a1), some (.int ((1 + (a0 * 3)) + a1))]) (st' := [.int (u 4 (((1 + (a0 * 3)) + a1).toNatClampNeg))]) (w' := (hp u fL fD, c, z)) rfl ?_
                cases h
                exact mg_Ev.fin rfl rfl rfl
        · rw [if_neg hc4] at h
          refine mg_Ev.go 1 (pc' := 25) (loc' := [some (.ref 4), some (.int a0), some (.int a1), none]) (st' := [.int 0]) (w' := (hp u fL fD, c, z)) rfl ?_
          cases h
          exact mg_Ev.fin rfl rfl rfl

def Tf_isUnder_L5 : Nat → Int32 → Int32 → Int32 → mg_Rg → Option ((Unit) ⊕ (Int32))
  | 0, _, _, _, _ => none
  | n + 1, x2, x3, x4, u =>
    if x3 = (-1) then
    some (.inl ())
    else
    if 4 ≤ x4 then
      some (.inl ())
      else
      if x3 = x2 then
        some (.inr 1)
        else
        (T_get_3 x3 0 u).bind fun v8 =>
          Tf_isUnder_L5 n x2 v8 (x4 + 1) u
set_option maxRecDepth 10000 in
set_option maxHeartbeats 4000000 in
theorem ev_Tf_isUnder_L5 {sc : mg_Sc} {c z : Nat} {fL : Nat → Int64} {fD : Nat → UInt64} : ∀ (n : Nat) (x2 : Int32) (x3 : Int32) (x4 : Int32) (u : mg_Rg) (res : (Unit) ⊕ (Int32)), Tf_isUnder_L5 n x2 x3 x4 u = some res → ∀ r, (match res with | .inl _ => mg_Ev sc 1 201 39 [none, none, none, none, none] [] (hp u fL fD, c, z) r | .inr rv => r = (.inl (some (.int rv)), (hp u fL fD, c, z))) → mg_Ev sc 1 201 5 [some (.ref 3), none, some (.int x2), some (.int x3), some (.int x4)] [] (hp u fL fD, c, z) r := by
  intro n
  induction n with
  | zero => intro x2 x3 x4 u res h; cases h
  | succ n ih =>
    intro x2 x3 x4 u res h r K
    unfold Tf_isUnder_L5 at h
    refine mg_Ev.go 2 (pc' := 7) (loc' := [some (.ref 3), none, some (.int x2), some (.int x3), some (.int x4)]) (st' := [.int (-1), .int x3]) (w' := (hp u fL fD, c, z)) rfl ?_
    refine mg_Ev.br (P := x3 = (-1)) (t := 39) (nx := 10) (st' := []) rfl rfl rfl rfl (fun hc11 => ?_) (fun hc11 => ?_)
    · rw [if_pos hc11] at h
      cases h
      exact mg_Ev.more (loc := [none, none, none, none, none]) K trivial
    · rw [if_neg hc11] at h
      refine mg_Ev.go 2 (pc' := 13) (loc' := [some (.ref 3), none, some (.int x2), some (.int x3), some (.int x4)]) (st' := [.int 4, .int x4]) (w' := (hp u fL fD, c, z)) rfl ?_
      refine mg_Ev.br (P := 4 ≤ x4) (t := 39) (nx := 16) (st' := []) rfl rfl rfl rfl (fun hc12 => ?_) (fun hc12 => ?_)
      · rw [if_pos hc12] at h
        cases h
        exact mg_Ev.more (loc := [none, none, none, none, none]) K trivial
      · rw [if_neg hc12] at h
        refine mg_Ev.go 2 (pc' := 18) (loc' := [some (.ref 3), none, some (.int x2), some (.int x3), some (.int x4)]) (st' := [.int x2, .int x3]) (w' := (hp u fL fD, c, z)) rfl ?_
        refine mg_Ev.br (P := x3 = x2) (t := 21) (nx := 23) (st' := []) rfl rfl rfl rfl (fun hc13 => ?_) (fun hc13 => ?_)
        · rw [if_pos hc13] at h
          refine mg_Ev.go 1 (pc' := 22) (loc' := [some (.ref 3), none, some (.int x2), some (.int x3), some (.int x4)]) (st' := [.int 1]) (w' := (hp u fL fD, c, z)) rfl ?_
          cases h
          cases K
          exact mg_Ev.fin rfl rfl rfl
        · rw [if_neg hc13] at h
          refine mg_Ev.go 4 (pc' := 29) (loc' := [some (.ref 3), none, some (.int x2), some (.int x3), some (.int x4)]) (st' := [.int 0, .int x3, .ref 4]) (w' := (hp u fL fD, c, z)) rfl ?_
          obtain ⟨v8, hf14, h⟩ := Option.bind_eq_some_iff.mp h
          refine mg_Ev.call (y := 184) (as := [.ref 4, .int x3, .int 0]) (rest := []) (v := some (.int v8)) (w1 := (hp u fL fD, c, z)) rfl rfl (Nat.le_of_ble_eq_true rfl) ((ev_T_get_3 hf14).deep (by decide)) ?_
          refine mg_Ev.go 3 (pc' := 5) (loc' := [some (.ref 3), none, some (.int x2), some (.int v8), some (.int (x4 + 1))]) (st' := []) (w' := (hp u fL fD, c, z)) rfl ?_
          exact mg_Ev.more (loc := [some (.ref 3), none, some (.int x2), some (.int v8), some (.int (x4 + 1))]) (ih _ _ _ _ _ h _ K) ⟨rfl, ⟨rfl, ⟨rfl, ⟨rfl, trivial⟩⟩⟩⟩

def Tf_isUnder (a0 : Int32) (a1 : Int32) (u : mg_Rg) : Option (Int32) :=
  (Tf_isUnder_L5 mg_F a1 a0 0 u).bind fun q15 => match q15 with
  | .inl _ =>
    some 0
  | .inr v9 =>
    some v9

set_option maxRecDepth 10000 in
set_option maxHeartbeats 4000000 in
theorem ev_Tf_isUnder {sc : mg_Sc} {c z : Nat} {fL : Nat → Int64} {fD : Nat → UInt64} {a0 : Int32} {a1 : Int32} {u : mg_Rg} {v : Int32} (h : Tf_isUnder a0 a1 u = some v) : mg_Ev sc 1 201 0 (mg_entry 201 [.ref 3, .int a0, .int a1]) [] (hp u fL fD, c, z) (.inl (some (.int v)), (hp u fL fD, c, z)) := by
  unfold Tf_isUnder at h
  show mg_Ev _ _ _ 0 [some (.ref 3), some (.int a0), some (.int a1), none, none] [] _ _
  refine mg_Ev.go 4 (pc' := 5) (loc' := [some (.ref 3), some (.int a0), some (.int a1), some (.int a0), some (.int 0)]) (st' := []) (w' := (hp u fL fD, c, z)) rfl ?_
  obtain ⟨(⟨⟩ | v9), hl16, h⟩ := Option.bind_eq_some_iff.mp h
  · try dsimp only at h
    refine mg_Ev.more (loc := [some (.ref 3), none, some (.int a1), some (.int a0), some (.int 0)]) (ev_Tf_isUnder_L5 _ _ _ _ _ _ hl16 _ ?_) ⟨rfl, ⟨rfl, ⟨rfl, ⟨rfl, trivial⟩⟩⟩⟩
    show mg_Ev _ _ _ 39 [none, none, none, none, none] [] (hp u fL fD, c, z) _
    refine mg_Ev.go 1 (pc' := 40) (loc' := [none, none, none, none, none]) (st' := [.int 0]) (w' := (hp u fL fD, c, z)) rfl ?_
    cases h
    exact mg_Ev.fin rfl rfl rfl
  · try dsimp only at h
    cases h
    refine mg_Ev.more (loc := [some (.ref 3), none, some (.int a1), some (.int a0), some (.int 0)]) (ev_Tf_isUnder_L5 _ _ _ _ _ _ hl16 _ ?_) ⟨rfl, ⟨rfl, ⟨rfl, ⟨rfl, trivial⟩⟩⟩⟩
    rfl
end
section
theorem zz_last : True := trivial
end
