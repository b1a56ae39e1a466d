section
-- ===== PART A: goes FIRST, ahead of the names: the tables' words, and 'selects' of the private methods out of them =====
/-- a private method of a class that the tables say can be made, by its rows of tables_1 -/
def lw_okq (q : MethodName × Nat) : Prop := (q.1.cls ≠ "java/lang/invoke/MethodHandle" ∧ q.1.cls ≠ "java/lang/invoke/VarHandle") ∧ Cond.instantiable q.1.cls q.2 ∈ tables_1 ∧ Cond.privateMethod q.1 ∈ tables_1 ∧ Cond.instanceMethod q.1 ∈ tables_1
theorem lw_p0 : lw_okq (⟨"HouseWires", "lineOfNumber", "(I)I"⟩, 15) := ⟨⟨by decide +kernel, by decide +kernel⟩, List.mem_of_getElem? (i := 25) (by decide +kernel), List.mem_of_getElem? (i := 182) (by decide +kernel), List.mem_of_getElem? (i := 183) (by decide +kernel)⟩
theorem lw_p1 : lw_okq (⟨"HouseWires", "lineAt", "(I)LHouseWires$Line;"⟩, 15) := ⟨⟨by decide +kernel, by decide +kernel⟩, List.mem_of_getElem? (i := 25) (by decide +kernel), List.mem_of_getElem? (i := 244) (by decide +kernel), List.mem_of_getElem? (i := 245) (by decide +kernel)⟩
theorem lw_p2 : lw_okq (⟨"HouseWires", "hasDeviceOf", "(I)Z"⟩, 15) := ⟨⟨by decide +kernel, by decide +kernel⟩, List.mem_of_getElem? (i := 25) (by decide +kernel), List.mem_of_getElem? (i := 248) (by decide +kernel), List.mem_of_getElem? (i := 249) (by decide +kernel)⟩
theorem lw_p3 : lw_okq (⟨"HouseWires", "joinLines", "(IIII)V"⟩, 15) := ⟨⟨by decide +kernel, by decide +kernel⟩, List.mem_of_getElem? (i := 25) (by decide +kernel), List.mem_of_getElem? (i := 417) (by decide +kernel), List.mem_of_getElem? (i := 418) (by decide +kernel)⟩
theorem lw_p4 : lw_okq (⟨"HouseWires$Port", "leadsTo", "(I)Z"⟩, 5) := ⟨⟨by decide +kernel, by decide +kernel⟩, List.mem_of_getElem? (i := 399) (by decide +kernel), List.mem_of_getElem? (i := 425) (by decide +kernel), List.mem_of_getElem? (i := 426) (by decide +kernel)⟩
theorem lw_p5 : lw_okq (⟨"HouseWires", "filterAt", "(I)LHouseWires$Filter;"⟩, 15) := ⟨⟨by decide +kernel, by decide +kernel⟩, List.mem_of_getElem? (i := 25) (by decide +kernel), List.mem_of_getElem? (i := 437) (by decide +kernel), List.mem_of_getElem? (i := 438) (by decide +kernel)⟩
theorem lw_p6 : lw_okq (⟨"HouseWires$Filter", "placeOf", "(I)I"⟩, 3) := ⟨⟨by decide +kernel, by decide +kernel⟩, List.mem_of_getElem? (i := 383) (by decide +kernel), List.mem_of_getElem? (i := 450) (by decide +kernel), List.mem_of_getElem? (i := 451) (by decide +kernel)⟩
theorem lw_p7 : lw_okq (⟨"HouseWires", "deviceAt", "(I)LHouseWires$Device;"⟩, 15) := ⟨⟨by decide +kernel, by decide +kernel⟩, List.mem_of_getElem? (i := 25) (by decide +kernel), List.mem_of_getElem? (i := 458) (by decide +kernel), List.mem_of_getElem? (i := 459) (by decide +kernel)⟩
theorem lw_p8 : lw_okq (⟨"HouseWires", "objectAt", "(II)LHouseWires$GroupObject;"⟩, 15) := ⟨⟨by decide +kernel, by decide +kernel⟩, List.mem_of_getElem? (i := 25) (by decide +kernel), List.mem_of_getElem? (i := 499) (by decide +kernel), List.mem_of_getElem? (i := 500) (by decide +kernel)⟩
theorem lw_p9 : lw_okq (⟨"HouseWires$Device", "ownGroup", "(I)I"⟩, 11) := ⟨⟨by decide +kernel, by decide +kernel⟩, List.mem_of_getElem? (i := 253) (by decide +kernel), List.mem_of_getElem? (i := 525) (by decide +kernel), List.mem_of_getElem? (i := 526) (by decide +kernel)⟩
theorem lw_p10 : lw_okq (⟨"HouseWires$Device", "sendToGroup", "(ILHouseWires$GroupObject;I)V"⟩, 11) := ⟨⟨by decide +kernel, by decide +kernel⟩, List.mem_of_getElem? (i := 253) (by decide +kernel), List.mem_of_getElem? (i := 541) (by decide +kernel), List.mem_of_getElem? (i := 542) (by decide +kernel)⟩
theorem lw_p11 : lw_okq (⟨"HouseWires$Connection", "start", "(II)V"⟩, 15) := ⟨⟨by decide +kernel, by decide +kernel⟩, List.mem_of_getElem? (i := 255) (by decide +kernel), List.mem_of_getElem? (i := 606) (by decide +kernel), List.mem_of_getElem? (i := 607) (by decide +kernel)⟩
theorem lw_p12 : lw_okq (⟨"HouseWires$Connection", "sendControl", "(II)V"⟩, 15) := ⟨⟨by decide +kernel, by decide +kernel⟩, List.mem_of_getElem? (i := 255) (by decide +kernel), List.mem_of_getElem? (i := 622) (by decide +kernel), List.mem_of_getElem? (i := 623) (by decide +kernel)⟩
theorem lw_p13 : lw_okq (⟨"HouseWires$Connection", "beginOrder", "(II)V"⟩, 15) := ⟨⟨by decide +kernel, by decide +kernel⟩, List.mem_of_getElem? (i := 255) (by decide +kernel), List.mem_of_getElem? (i := 634) (by decide +kernel), List.mem_of_getElem? (i := 635) (by decide +kernel)⟩
theorem lw_p14 : lw_okq (⟨"HouseWires$Connection", "sendOrder", "()V"⟩, 15) := ⟨⟨by decide +kernel, by decide +kernel⟩, List.mem_of_getElem? (i := 255) (by decide +kernel), List.mem_of_getElem? (i := 638) (by decide +kernel), List.mem_of_getElem? (i := 639) (by decide +kernel)⟩
theorem lw_p15 : lw_okq (⟨"HouseWires", "feedNumber", "(I)V"⟩, 15) := ⟨⟨by decide +kernel, by decide +kernel⟩, List.mem_of_getElem? (i := 25) (by decide +kernel), List.mem_of_getElem? (i := 678) (by decide +kernel), List.mem_of_getElem? (i := 679) (by decide +kernel)⟩
def lw_privs_1 : List (MethodName × Nat) := [(⟨"HouseWires", "lineOfNumber", "(I)I"⟩, 15), (⟨"HouseWires", "lineAt", "(I)LHouseWires$Line;"⟩, 15), (⟨"HouseWires", "hasDeviceOf", "(I)Z"⟩, 15), (⟨"HouseWires", "joinLines", "(IIII)V"⟩, 15), (⟨"HouseWires$Port", "leadsTo", "(I)Z"⟩, 5), (⟨"HouseWires", "filterAt", "(I)LHouseWires$Filter;"⟩, 15), (⟨"HouseWires$Filter", "placeOf", "(I)I"⟩, 3), (⟨"HouseWires", "deviceAt", "(I)LHouseWires$Device;"⟩, 15), (⟨"HouseWires", "objectAt", "(II)LHouseWires$GroupObject;"⟩, 15), (⟨"HouseWires$Device", "ownGroup", "(I)I"⟩, 11), (⟨"HouseWires$Device", "sendToGroup", "(ILHouseWires$GroupObject;I)V"⟩, 11), (⟨"HouseWires$Connection", "start", "(II)V"⟩, 15), (⟨"HouseWires$Connection", "sendControl", "(II)V"⟩, 15), (⟨"HouseWires$Connection", "beginOrder", "(II)V"⟩, 15), (⟨"HouseWires$Connection", "sendOrder", "()V"⟩, 15), (⟨"HouseWires", "feedNumber", "(I)V"⟩, 15)]
theorem lw_r1 : ∀ q ∈ lw_privs_1, lw_okq q := List.forall_mem_cons.mpr ⟨lw_p0, List.forall_mem_cons.mpr ⟨lw_p1, List.forall_mem_cons.mpr ⟨lw_p2, List.forall_mem_cons.mpr ⟨lw_p3, List.forall_mem_cons.mpr ⟨lw_p4, List.forall_mem_cons.mpr ⟨lw_p5, List.forall_mem_cons.mpr ⟨lw_p6, List.forall_mem_cons.mpr ⟨lw_p7, List.forall_mem_cons.mpr ⟨lw_p8, List.forall_mem_cons.mpr ⟨lw_p9, List.forall_mem_cons.mpr ⟨lw_p10, List.forall_mem_cons.mpr ⟨lw_p11, List.forall_mem_cons.mpr ⟨lw_p12, List.forall_mem_cons.mpr ⟨lw_p13, List.forall_mem_cons.mpr ⟨lw_p14, List.forall_mem_cons.mpr ⟨lw_p15, fun _ h => absurd h List.not_mem_nil⟩⟩⟩⟩⟩⟩⟩⟩⟩⟩⟩⟩⟩⟩⟩⟩
theorem lw_p16 : lw_okq (⟨"java/lang/Throwable", "fillInStackTrace", "(I)Ljava/lang/Throwable;"⟩, 6) := ⟨⟨by decide +kernel, by decide +kernel⟩, List.mem_of_getElem? (i := 752) (by decide +kernel), List.mem_of_getElem? (i := 750) (by decide +kernel), List.mem_of_getElem? (i := 751) (by decide +kernel)⟩
theorem lw_p17 : lw_okq (⟨"HouseWires", "transmit", "(ILHouseWires$Row;)V"⟩, 15) := ⟨⟨by decide +kernel, by decide +kernel⟩, List.mem_of_getElem? (i := 25) (by decide +kernel), List.mem_of_getElem? (i := 805) (by decide +kernel), List.mem_of_getElem? (i := 806) (by decide +kernel)⟩
theorem lw_p18 : lw_okq (⟨"HouseWires", "putOnWire", "(LHouseWires$Telegram;I)V"⟩, 15) := ⟨⟨by decide +kernel, by decide +kernel⟩, List.mem_of_getElem? (i := 25) (by decide +kernel), List.mem_of_getElem? (i := 809) (by decide +kernel), List.mem_of_getElem? (i := 810) (by decide +kernel)⟩
theorem lw_p19 : lw_okq (⟨"HouseWires$Device", "isFor", "(LHouseWires$Telegram;)Z"⟩, 11) := ⟨⟨by decide +kernel, by decide +kernel⟩, List.mem_of_getElem? (i := 253) (by decide +kernel), List.mem_of_getElem? (i := 836) (by decide +kernel), List.mem_of_getElem? (i := 837) (by decide +kernel)⟩
theorem lw_p20 : lw_okq (⟨"HouseWires$Device", "serveGroup", "(LHouseWires$Telegram;)V"⟩, 11) := ⟨⟨by decide +kernel, by decide +kernel⟩, List.mem_of_getElem? (i := 253) (by decide +kernel), List.mem_of_getElem? (i := 857) (by decide +kernel), List.mem_of_getElem? (i := 858) (by decide +kernel)⟩
theorem lw_p21 : lw_okq (⟨"HouseWires$Device", "serveObject", "(LHouseWires$GroupObject;IILHouseWires$Telegram;)V"⟩, 11) := ⟨⟨by decide +kernel, by decide +kernel⟩, List.mem_of_getElem? (i := 253) (by decide +kernel), List.mem_of_getElem? (i := 865) (by decide +kernel), List.mem_of_getElem? (i := 866) (by decide +kernel)⟩
theorem lw_p22 : lw_okq (⟨"HouseWires$Connection", "takesData", "(II)Z"⟩, 15) := ⟨⟨by decide +kernel, by decide +kernel⟩, List.mem_of_getElem? (i := 255) (by decide +kernel), List.mem_of_getElem? (i := 885) (by decide +kernel), List.mem_of_getElem? (i := 886) (by decide +kernel)⟩
theorem lw_p23 : lw_okq (⟨"HouseWires$Connection", "isPartner", "(I)Z"⟩, 15) := ⟨⟨by decide +kernel, by decide +kernel⟩, List.mem_of_getElem? (i := 255) (by decide +kernel), List.mem_of_getElem? (i := 889) (by decide +kernel), List.mem_of_getElem? (i := 890) (by decide +kernel)⟩
theorem lw_p24 : lw_okq (⟨"HouseWires$Connection", "obey", "(LHouseWires$Telegram;)V"⟩, 15) := ⟨⟨by decide +kernel, by decide +kernel⟩, List.mem_of_getElem? (i := 255) (by decide +kernel), List.mem_of_getElem? (i := 893) (by decide +kernel), List.mem_of_getElem? (i := 894) (by decide +kernel)⟩
theorem lw_p25 : lw_okq (⟨"HouseWires$Connection", "answerRead", "(II)V"⟩, 15) := ⟨⟨by decide +kernel, by decide +kernel⟩, List.mem_of_getElem? (i := 255) (by decide +kernel), List.mem_of_getElem? (i := 897) (by decide +kernel), List.mem_of_getElem? (i := 898) (by decide +kernel)⟩
theorem lw_p26 : lw_okq (⟨"HouseWires$Connection", "beOpened", "(I)V"⟩, 15) := ⟨⟨by decide +kernel, by decide +kernel⟩, List.mem_of_getElem? (i := 255) (by decide +kernel), List.mem_of_getElem? (i := 902) (by decide +kernel), List.mem_of_getElem? (i := 903) (by decide +kernel)⟩
theorem lw_p27 : lw_okq (⟨"HouseWires$Connection", "sendAgain", "()V"⟩, 15) := ⟨⟨by decide +kernel, by decide +kernel⟩, List.mem_of_getElem? (i := 255) (by decide +kernel), List.mem_of_getElem? (i := 907) (by decide +kernel), List.mem_of_getElem? (i := 908) (by decide +kernel)⟩
theorem lw_p28 : lw_okq (⟨"HouseWires$Connection", "proceed", "()V"⟩, 15) := ⟨⟨by decide +kernel, by decide +kernel⟩, List.mem_of_getElem? (i := 255) (by decide +kernel), List.mem_of_getElem? (i := 911) (by decide +kernel), List.mem_of_getElem? (i := 912) (by decide +kernel)⟩
theorem lw_p29 : lw_okq (⟨"HouseWires", "finish", "(LHouseWires$Row;LHouseWires$Station;Z)V"⟩, 15) := ⟨⟨by decide +kernel, by decide +kernel⟩, List.mem_of_getElem? (i := 25) (by decide +kernel), List.mem_of_getElem? (i := 949) (by decide +kernel), List.mem_of_getElem? (i := 950) (by decide +kernel)⟩
theorem lw_p30 : lw_okq (⟨"HouseWiresModel", "lineOf", "(I)I"⟩, 40) := ⟨⟨by decide +kernel, by decide +kernel⟩, List.mem_of_getElem? (i := 998) (by decide +kernel), List.mem_of_getElem? (i := 1315) (by decide +kernel), List.mem_of_getElem? (i := 1316) (by decide +kernel)⟩
theorem lw_p31 : lw_okq (⟨"HouseWiresModel", "isLine", "(I)Z"⟩, 40) := ⟨⟨by decide +kernel, by decide +kernel⟩, List.mem_of_getElem? (i := 998) (by decide +kernel), List.mem_of_getElem? (i := 1323) (by decide +kernel), List.mem_of_getElem? (i := 1324) (by decide +kernel)⟩
def lw_privs_2 : List (MethodName × Nat) := [(⟨"java/lang/Throwable", "fillInStackTrace", "(I)Ljava/lang/Throwable;"⟩, 6), (⟨"HouseWires", "transmit", "(ILHouseWires$Row;)V"⟩, 15), (⟨"HouseWires", "putOnWire", "(LHouseWires$Telegram;I)V"⟩, 15), (⟨"HouseWires$Device", "isFor", "(LHouseWires$Telegram;)Z"⟩, 11), (⟨"HouseWires$Device", "serveGroup", "(LHouseWires$Telegram;)V"⟩, 11), (⟨"HouseWires$Device", "serveObject", "(LHouseWires$GroupObject;IILHouseWires$Telegram;)V"⟩, 11), (⟨"HouseWires$Connection", "takesData", "(II)Z"⟩, 15), (⟨"HouseWires$Connection", "isPartner", "(I)Z"⟩, 15), (⟨"HouseWires$Connection", "obey", "(LHouseWires$Telegram;)V"⟩, 15), (⟨"HouseWires$Connection", "answerRead", "(II)V"⟩, 15), (⟨"HouseWires$Connection", "beOpened", "(I)V"⟩, 15), (⟨"HouseWires$Connection", "sendAgain", "()V"⟩, 15), (⟨"HouseWires$Connection", "proceed", "()V"⟩, 15), (⟨"HouseWires", "finish", "(LHouseWires$Row;LHouseWires$Station;Z)V"⟩, 15), (⟨"HouseWiresModel", "lineOf", "(I)I"⟩, 40), (⟨"HouseWiresModel", "isLine", "(I)Z"⟩, 40)]
theorem lw_r2 : ∀ q ∈ lw_privs_2, lw_okq q := List.forall_mem_cons.mpr ⟨lw_p16, List.forall_mem_cons.mpr ⟨lw_p17, List.forall_mem_cons.mpr ⟨lw_p18, List.forall_mem_cons.mpr ⟨lw_p19, List.forall_mem_cons.mpr ⟨lw_p20, List.forall_mem_cons.mpr ⟨lw_p21, List.forall_mem_cons.mpr ⟨lw_p22, List.forall_mem_cons.mpr ⟨lw_p23, List.forall_mem_cons.mpr ⟨lw_p24, List.forall_mem_cons.mpr ⟨lw_p25, List.forall_mem_cons.mpr ⟨lw_p26, List.forall_mem_cons.mpr ⟨lw_p27, List.forall_mem_cons.mpr ⟨lw_p28, List.forall_mem_cons.mpr ⟨lw_p29, List.forall_mem_cons.mpr ⟨lw_p30, List.forall_mem_cons.mpr ⟨lw_p31, fun _ h => absurd h List.not_mem_nil⟩⟩⟩⟩⟩⟩⟩⟩⟩⟩⟩⟩⟩⟩⟩⟩
theorem lw_p32 : lw_okq (⟨"HouseWiresModel", "isJoined", "(III)Z"⟩, 40) := ⟨⟨by decide +kernel, by decide +kernel⟩, List.mem_of_getElem? (i := 998) (by decide +kernel), List.mem_of_getElem? (i := 1331) (by decide +kernel), List.mem_of_getElem? (i := 1332) (by decide +kernel)⟩
theorem lw_p33 : lw_okq (⟨"HouseWiresModel", "isCoupler", "(I)Z"⟩, 40) := ⟨⟨by decide +kernel, by decide +kernel⟩, List.mem_of_getElem? (i := 998) (by decide +kernel), List.mem_of_getElem? (i := 1339) (by decide +kernel), List.mem_of_getElem? (i := 1340) (by decide +kernel)⟩
theorem lw_p34 : lw_okq (⟨"HouseWiresModel", "isDevice", "(I)Z"⟩, 40) := ⟨⟨by decide +kernel, by decide +kernel⟩, List.mem_of_getElem? (i := 998) (by decide +kernel), List.mem_of_getElem? (i := 1352) (by decide +kernel), List.mem_of_getElem? (i := 1353) (by decide +kernel)⟩
theorem lw_p35 : lw_okq (⟨"HouseWiresModel", "isObject", "(II)Z"⟩, 40) := ⟨⟨by decide +kernel, by decide +kernel⟩, List.mem_of_getElem? (i := 998) (by decide +kernel), List.mem_of_getElem? (i := 1362) (by decide +kernel), List.mem_of_getElem? (i := 1363) (by decide +kernel)⟩
theorem lw_p36 : lw_okq (⟨"HouseWiresModel", "sets", "(LHouseWiresModel$Device;II)I"⟩, 40) := ⟨⟨by decide +kernel, by decide +kernel⟩, List.mem_of_getElem? (i := 998) (by decide +kernel), List.mem_of_getElem? (i := 1374) (by decide +kernel), List.mem_of_getElem? (i := 1375) (by decide +kernel)⟩
theorem lw_p37 : lw_okq (⟨"HouseWiresModel", "tellsValue", "(LHouseWiresModel$Device;III)V"⟩, 40) := ⟨⟨by decide +kernel, by decide +kernel⟩, List.mem_of_getElem? (i := 998) (by decide +kernel), List.mem_of_getElem? (i := 1384) (by decide +kernel), List.mem_of_getElem? (i := 1385) (by decide +kernel)⟩
theorem lw_p38 : lw_okq (⟨"HouseWiresModel", "tells", "(LHouseWiresModel$Device;IZI[II)I"⟩, 40) := ⟨⟨by decide +kernel, by decide +kernel⟩, List.mem_of_getElem? (i := 998) (by decide +kernel), List.mem_of_getElem? (i := 1391) (by decide +kernel), List.mem_of_getElem? (i := 1392) (by decide +kernel)⟩
theorem lw_p39 : lw_okq (⟨"HouseWiresModel", "comes", "(LHouseWiresModel$Out;[II)I"⟩, 40) := ⟨⟨by decide +kernel, by decide +kernel⟩, List.mem_of_getElem? (i := 998) (by decide +kernel), List.mem_of_getElem? (i := 1398) (by decide +kernel), List.mem_of_getElem? (i := 1399) (by decide +kernel)⟩
theorem lw_p40 : lw_okq (⟨"HouseWiresModel", "tellsOne", "(LHouseWiresModel$Device;II)I"⟩, 40) := ⟨⟨by decide +kernel, by decide +kernel⟩, List.mem_of_getElem? (i := 998) (by decide +kernel), List.mem_of_getElem? (i := 1430) (by decide +kernel), List.mem_of_getElem? (i := 1431) (by decide +kernel)⟩
theorem lw_p41 : lw_okq (⟨"HouseWiresModel", "closes", "(LHouseWiresModel$Device;)V"⟩, 40) := ⟨⟨by decide +kernel, by decide +kernel⟩, List.mem_of_getElem? (i := 998) (by decide +kernel), List.mem_of_getElem? (i := 1438) (by decide +kernel), List.mem_of_getElem? (i := 1439) (by decide +kernel)⟩
theorem lw_p42 : lw_okq (⟨"HouseWiresModel", "mayOrder", "(IIII)Z"⟩, 40) := ⟨⟨by decide +kernel, by decide +kernel⟩, List.mem_of_getElem? (i := 998) (by decide +kernel), List.mem_of_getElem? (i := 1446) (by decide +kernel), List.mem_of_getElem? (i := 1447) (by decide +kernel)⟩
theorem lw_p43 : lw_okq (⟨"HouseWiresModel", "sendsData", "(LHouseWiresModel$Device;[II)V"⟩, 40) := ⟨⟨by decide +kernel, by decide +kernel⟩, List.mem_of_getElem? (i := 998) (by decide +kernel), List.mem_of_getElem? (i := 1450) (by decide +kernel), List.mem_of_getElem? (i := 1451) (by decide +kernel)⟩
theorem lw_p44 : lw_okq (⟨"HouseWiresModel", "goesOn", "(I)V"⟩, 40) := ⟨⟨by decide +kernel, by decide +kernel⟩, List.mem_of_getElem? (i := 998) (by decide +kernel), List.mem_of_getElem? (i := 1498) (by decide +kernel), List.mem_of_getElem? (i := 1499) (by decide +kernel)⟩
theorem lw_p45 : lw_okq (⟨"HouseWiresModel", "gather", "(I)V"⟩, 40) := ⟨⟨by decide +kernel, by decide +kernel⟩, List.mem_of_getElem? (i := 998) (by decide +kernel), List.mem_of_getElem? (i := 1502) (by decide +kernel), List.mem_of_getElem? (i := 1503) (by decide +kernel)⟩
theorem lw_p46 : lw_okq (⟨"HouseWiresModel", "stands", "(LHouseWiresModel$Out;I)V"⟩, 40) := ⟨⟨by decide +kernel, by decide +kernel⟩, List.mem_of_getElem? (i := 998) (by decide +kernel), List.mem_of_getElem? (i := 1506) (by decide +kernel), List.mem_of_getElem? (i := 1507) (by decide +kernel)⟩
theorem lw_p47 : lw_okq (⟨"HouseWiresModel", "winner", "()I"⟩, 40) := ⟨⟨by decide +kernel, by decide +kernel⟩, List.mem_of_getElem? (i := 998) (by decide +kernel), List.mem_of_getElem? (i := 1510) (by decide +kernel), List.mem_of_getElem? (i := 1511) (by decide +kernel)⟩
def lw_privs_3 : List (MethodName × Nat) := [(⟨"HouseWiresModel", "isJoined", "(III)Z"⟩, 40), (⟨"HouseWiresModel", "isCoupler", "(I)Z"⟩, 40), (⟨"HouseWiresModel", "isDevice", "(I)Z"⟩, 40), (⟨"HouseWiresModel", "isObject", "(II)Z"⟩, 40), (⟨"HouseWiresModel", "sets", "(LHouseWiresModel$Device;II)I"⟩, 40), (⟨"HouseWiresModel", "tellsValue", "(LHouseWiresModel$Device;III)V"⟩, 40), (⟨"HouseWiresModel", "tells", "(LHouseWiresModel$Device;IZI[II)I"⟩, 40), (⟨"HouseWiresModel", "comes", "(LHouseWiresModel$Out;[II)I"⟩, 40), (⟨"HouseWiresModel", "tellsOne", "(LHouseWiresModel$Device;II)I"⟩, 40), (⟨"HouseWiresModel", "closes", "(LHouseWiresModel$Device;)V"⟩, 40), (⟨"HouseWiresModel", "mayOrder", "(IIII)Z"⟩, 40), (⟨"HouseWiresModel", "sendsData", "(LHouseWiresModel$Device;[II)V"⟩, 40), (⟨"HouseWiresModel", "goesOn", "(I)V"⟩, 40), (⟨"HouseWiresModel", "gather", "(I)V"⟩, 40), (⟨"HouseWiresModel", "stands", "(LHouseWiresModel$Out;I)V"⟩, 40), (⟨"HouseWiresModel", "winner", "()I"⟩, 40)]
theorem lw_r3 : ∀ q ∈ lw_privs_3, lw_okq q := List.forall_mem_cons.mpr ⟨lw_p32, List.forall_mem_cons.mpr ⟨lw_p33, List.forall_mem_cons.mpr ⟨lw_p34, List.forall_mem_cons.mpr ⟨lw_p35, List.forall_mem_cons.mpr ⟨lw_p36, List.forall_mem_cons.mpr ⟨lw_p37, List.forall_mem_cons.mpr ⟨lw_p38, List.forall_mem_cons.mpr ⟨lw_p39, List.forall_mem_cons.mpr ⟨lw_p40, List.forall_mem_cons.mpr ⟨lw_p41, List.forall_mem_cons.mpr ⟨lw_p42, List.forall_mem_cons.mpr ⟨lw_p43, List.forall_mem_cons.mpr ⟨lw_p44, List.forall_mem_cons.mpr ⟨lw_p45, List.forall_mem_cons.mpr ⟨lw_p46, List.forall_mem_cons.mpr ⟨lw_p47, fun _ h => absurd h List.not_mem_nil⟩⟩⟩⟩⟩⟩⟩⟩⟩⟩⟩⟩⟩⟩⟩⟩
theorem lw_p48 : lw_okq (⟨"HouseWiresModel", "hears", "(LHouseWiresModel$Out;)V"⟩, 40) := ⟨⟨by decide +kernel, by decide +kernel⟩, List.mem_of_getElem? (i := 998) (by decide +kernel), List.mem_of_getElem? (i := 1523) (by decide +kernel), List.mem_of_getElem? (i := 1524) (by decide +kernel)⟩
theorem lw_p49 : lw_okq (⟨"HouseWiresModel", "answerOf", "(IZ)I"⟩, 40) := ⟨⟨by decide +kernel, by decide +kernel⟩, List.mem_of_getElem? (i := 998) (by decide +kernel), List.mem_of_getElem? (i := 1530) (by decide +kernel), List.mem_of_getElem? (i := 1531) (by decide +kernel)⟩
theorem lw_p50 : lw_okq (⟨"HouseWiresModel", "answerDevice", "(LHouseWiresModel$Device;)I"⟩, 40) := ⟨⟨by decide +kernel, by decide +kernel⟩, List.mem_of_getElem? (i := 998) (by decide +kernel), List.mem_of_getElem? (i := 1534) (by decide +kernel), List.mem_of_getElem? (i := 1535) (by decide +kernel)⟩
theorem lw_p51 : lw_okq (⟨"HouseWiresModel", "doesGroup", "(LHouseWiresModel$Device;[III)V"⟩, 40) := ⟨⟨by decide +kernel, by decide +kernel⟩, List.mem_of_getElem? (i := 998) (by decide +kernel), List.mem_of_getElem? (i := 1547) (by decide +kernel), List.mem_of_getElem? (i := 1548) (by decide +kernel)⟩
theorem lw_p52 : lw_okq (⟨"HouseWiresModel", "doesAddress", "(LHouseWiresModel$Device;[III)V"⟩, 40) := ⟨⟨by decide +kernel, by decide +kernel⟩, List.mem_of_getElem? (i := 998) (by decide +kernel), List.mem_of_getElem? (i := 1554) (by decide +kernel), List.mem_of_getElem? (i := 1555) (by decide +kernel)⟩
theorem lw_p53 : lw_okq (⟨"HouseWiresModel", "opens", "(LHouseWiresModel$Device;I)V"⟩, 40) := ⟨⟨by decide +kernel, by decide +kernel⟩, List.mem_of_getElem? (i := 998) (by decide +kernel), List.mem_of_getElem? (i := 1558) (by decide +kernel), List.mem_of_getElem? (i := 1559) (by decide +kernel)⟩
theorem lw_p54 : lw_okq (⟨"HouseWiresModel", "answers", "(LHouseWiresModel$Device;II)V"⟩, 40) := ⟨⟨by decide +kernel, by decide +kernel⟩, List.mem_of_getElem? (i := 998) (by decide +kernel), List.mem_of_getElem? (i := 1562) (by decide +kernel), List.mem_of_getElem? (i := 1563) (by decide +kernel)⟩
theorem lw_p55 : lw_okq (⟨"HouseWiresModel", "again", "(LHouseWiresModel$Device;)V"⟩, 40) := ⟨⟨by decide +kernel, by decide +kernel⟩, List.mem_of_getElem? (i := 998) (by decide +kernel), List.mem_of_getElem? (i := 1566) (by decide +kernel), List.mem_of_getElem? (i := 1567) (by decide +kernel)⟩
theorem lw_p56 : lw_okq (⟨"HouseWiresModel", "data", "(LHouseWiresModel$Device;[III)V"⟩, 40) := ⟨⟨by decide +kernel, by decide +kernel⟩, List.mem_of_getElem? (i := 998) (by decide +kernel), List.mem_of_getElem? (i := 1570) (by decide +kernel), List.mem_of_getElem? (i := 1571) (by decide +kernel)⟩
theorem lw_p57 : lw_okq (⟨"HouseWiresModel", "orders", "(LHouseWiresModel$Device;[II)V"⟩, 40) := ⟨⟨by decide +kernel, by decide +kernel⟩, List.mem_of_getElem? (i := 998) (by decide +kernel), List.mem_of_getElem? (i := 1574) (by decide +kernel), List.mem_of_getElem? (i := 1575) (by decide +kernel)⟩
theorem lw_p58 : lw_okq (⟨"HouseWiresModel", "answerCoupler", "(LHouseWiresModel$Coupler;II)I"⟩, 40) := ⟨⟨by decide +kernel, by decide +kernel⟩, List.mem_of_getElem? (i := 998) (by decide +kernel), List.mem_of_getElem? (i := 1578) (by decide +kernel), List.mem_of_getElem? (i := 1579) (by decide +kernel)⟩
theorem lw_p59 : lw_okq (⟨"HouseWiresModel", "passes", "(LHouseWiresModel$Coupler;II)Z"⟩, 40) := ⟨⟨by decide +kernel, by decide +kernel⟩, List.mem_of_getElem? (i := 998) (by decide +kernel), List.mem_of_getElem? (i := 1582) (by decide +kernel), List.mem_of_getElem? (i := 1583) (by decide +kernel)⟩
theorem lw_p60 : lw_okq (⟨"HouseWiresModel", "ends", "(LHouseWiresModel$Out;I)V"⟩, 40) := ⟨⟨by decide +kernel, by decide +kernel⟩, List.mem_of_getElem? (i := 998) (by decide +kernel), List.mem_of_getElem? (i := 1586) (by decide +kernel), List.mem_of_getElem? (i := 1587) (by decide +kernel)⟩
theorem lw_p61 : lw_okq (⟨"HouseWiresModel", "times", "(LHouseWiresModel$Device;)V"⟩, 40) := ⟨⟨by decide +kernel, by decide +kernel⟩, List.mem_of_getElem? (i := 998) (by decide +kernel), List.mem_of_getElem? (i := 1594) (by decide +kernel), List.mem_of_getElem? (i := 1595) (by decide +kernel)⟩
def lw_privs_4 : List (MethodName × Nat) := [(⟨"HouseWiresModel", "hears", "(LHouseWiresModel$Out;)V"⟩, 40), (⟨"HouseWiresModel", "answerOf", "(IZ)I"⟩, 40), (⟨"HouseWiresModel", "answerDevice", "(LHouseWiresModel$Device;)I"⟩, 40), (⟨"HouseWiresModel", "doesGroup", "(LHouseWiresModel$Device;[III)V"⟩, 40), (⟨"HouseWiresModel", "doesAddress", "(LHouseWiresModel$Device;[III)V"⟩, 40), (⟨"HouseWiresModel", "opens", "(LHouseWiresModel$Device;I)V"⟩, 40), (⟨"HouseWiresModel", "answers", "(LHouseWiresModel$Device;II)V"⟩, 40), (⟨"HouseWiresModel", "again", "(LHouseWiresModel$Device;)V"⟩, 40), (⟨"HouseWiresModel", "data", "(LHouseWiresModel$Device;[III)V"⟩, 40), (⟨"HouseWiresModel", "orders", "(LHouseWiresModel$Device;[II)V"⟩, 40), (⟨"HouseWiresModel", "answerCoupler", "(LHouseWiresModel$Coupler;II)I"⟩, 40), (⟨"HouseWiresModel", "passes", "(LHouseWiresModel$Coupler;II)Z"⟩, 40), (⟨"HouseWiresModel", "ends", "(LHouseWiresModel$Out;I)V"⟩, 40), (⟨"HouseWiresModel", "times", "(LHouseWiresModel$Device;)V"⟩, 40)]
theorem lw_r4 : ∀ q ∈ lw_privs_4, lw_okq q := List.forall_mem_cons.mpr ⟨lw_p48, List.forall_mem_cons.mpr ⟨lw_p49, List.forall_mem_cons.mpr ⟨lw_p50, List.forall_mem_cons.mpr ⟨lw_p51, List.forall_mem_cons.mpr ⟨lw_p52, List.forall_mem_cons.mpr ⟨lw_p53, List.forall_mem_cons.mpr ⟨lw_p54, List.forall_mem_cons.mpr ⟨lw_p55, List.forall_mem_cons.mpr ⟨lw_p56, List.forall_mem_cons.mpr ⟨lw_p57, List.forall_mem_cons.mpr ⟨lw_p58, List.forall_mem_cons.mpr ⟨lw_p59, List.forall_mem_cons.mpr ⟨lw_p60, List.forall_mem_cons.mpr ⟨lw_p61, fun _ h => absurd h List.not_mem_nil⟩⟩⟩⟩⟩⟩⟩⟩⟩⟩⟩⟩⟩⟩
def lw_privs : List (MethodName × Nat) := lw_privs_1 ++ (lw_privs_2 ++ (lw_privs_3 ++ (lw_privs_4)))
def lw_tbl : List Cond := k2_sels lw_privs ++ tables_1
theorem lw_privs_ok : ∀ q ∈ lw_privs, lw_okq q := by
  show ∀ q ∈ lw_privs_1 ++ (lw_privs_2 ++ (lw_privs_3 ++ (lw_privs_4))), lw_okq q
  exact List.forall_mem_append.mpr ⟨lw_r1, List.forall_mem_append.mpr ⟨lw_r2, List.forall_mem_append.mpr ⟨lw_r3, lw_r4⟩⟩⟩
-- ===== end of PART A; then your names; then what follows =====
end
section
/-! ===== BEGIN printed: names, fields, word lists, decode rows ===== -/
def RX0 : String := "HouseWires$Connection"
def TX0 : u_T := fun k => match k with
  | 0 => ("HouseWires$Connection", "address", "I", true)
  | 1 => ("HouseWires$Connection", "out", "LHouseWires$Row;", true)
  | 2 => ("HouseWires$Connection", "draft", "LHouseWires$Telegram;", true)
  | 3 => ("HouseWires$Connection", "kept", "LHouseWires$Telegram;", true)
  | 4 => ("HouseWires$Connection", "memory", "[I", true)
  | 5 => ("HouseWires$Connection", "answer", "[I", true)
  | 6 => ("HouseWires$Connection", "answerLength", "I", false)
  | 7 => ("HouseWires$Connection", "state", "I", false)
  | 8 => ("HouseWires$Connection", "partner", "I", false)
  | 9 => ("HouseWires$Connection", "sentNumber", "I", false)
  | 10 => ("HouseWires$Connection", "gotNumber", "I", false)
  | 11 => ("HouseWires$Connection", "tries", "I", false)
  | 12 => ("HouseWires$Connection", "pause", "I", false)
  | 13 => ("HouseWires$Connection", "idle", "I", false)
  | _ => ("HouseWires$Connection", "joins", "I", false)
def tyX0 : Nat → FieldType := fun k => match k with
  | 0 => .int
  | 1 => .object "HouseWires$Row"
  | 2 => .object "HouseWires$Telegram"
  | 3 => .object "HouseWires$Telegram"
  | 4 => .array .int
  | 5 => .array .int
  | 6 => .int
  | 7 => .int
  | 8 => .int
  | 9 => .int
  | 10 => .int
  | 11 => .int
  | 12 => .int
  | 13 => .int
  | _ => .int
abbrev wsX00 : List Cond := u_ws RX0 TX0 15
theorem nmX0 : ∀ a, a < 15 → ∀ b, b < 15 → a ≠ b → (TX0 a).2.1 ≠ (TX0 b).2.1 := by decide +kernel
theorem tyX0_ok : ∀ k, k < 15 → parseFieldDescriptor (TX0 k).2.2.1 = some (tyX0 k) := by decide +kernel
abbrev cX0_init : ByteArray := prog_2_method_1_code
def yX0_init : MethodName := ⟨RX0, "<init>", "(ILHouseWires$Row;LHouseWires$Telegram;)V"⟩
abbrev cX0_tell : ByteArray := prog_2_method_2_code
def yX0_tell : MethodName := ⟨RX0, "tell", "(I)I"⟩
abbrev cX0_join : ByteArray := prog_2_method_3_code
def yX0_join : MethodName := ⟨RX0, "join", "(I)Z"⟩
abbrev cX0_finishJoin : ByteArray := prog_2_method_4_code
def yX0_finishJoin : MethodName := ⟨RX0, "finishJoin", "(IZ)V"⟩
abbrev cX0_close : ByteArray := prog_2_method_5_code
def yX0_close : MethodName := ⟨RX0, "close", "()V"⟩
abbrev cX0_orderRead : ByteArray := prog_2_method_6_code
def yX0_orderRead : MethodName := ⟨RX0, "orderRead", "(II)Z"⟩
abbrev cX0_orderWrite : ByteArray := prog_2_method_7_code
def yX0_orderWrite : MethodName := ⟨RX0, "orderWrite", "(III)Z"⟩
abbrev cX0_receive : ByteArray := prog_2_method_8_code
def yX0_receive : MethodName := ⟨RX0, "receive", "(LHouseWires$Telegram;)V"⟩
abbrev cX0_tick : ByteArray := prog_2_method_9_code
def yX0_tick : MethodName := ⟨RX0, "tick", "()V"⟩
abbrev cX0_isPartner : ByteArray := prog_2_method_10_code
def yX0_isPartner : MethodName := ⟨RX0, "isPartner", "(I)Z"⟩
abbrev cX0_start : ByteArray := prog_2_method_11_code
def yX0_start : MethodName := ⟨RX0, "start", "(II)V"⟩
abbrev cX0_beOpened : ByteArray := prog_2_method_12_code
def yX0_beOpened : MethodName := ⟨RX0, "beOpened", "(I)V"⟩
abbrev cX0_proceed : ByteArray := prog_2_method_13_code
def yX0_proceed : MethodName := ⟨RX0, "proceed", "()V"⟩
abbrev cX0_sendAgain : ByteArray := prog_2_method_14_code
def yX0_sendAgain : MethodName := ⟨RX0, "sendAgain", "()V"⟩
abbrev cX0_takesData : ByteArray := prog_2_method_15_code
def yX0_takesData : MethodName := ⟨RX0, "takesData", "(II)Z"⟩
abbrev cX0_obey : ByteArray := prog_2_method_16_code
def yX0_obey : MethodName := ⟨RX0, "obey", "(LHouseWires$Telegram;)V"⟩
abbrev cX0_answerRead : ByteArray := prog_2_method_17_code
def yX0_answerRead : MethodName := ⟨RX0, "answerRead", "(II)V"⟩
abbrev cX0_sendControl : ByteArray := prog_2_method_18_code
def yX0_sendControl : MethodName := ⟨RX0, "sendControl", "(II)V"⟩
abbrev cX0_beginOrder : ByteArray := prog_2_method_19_code
def yX0_beginOrder : MethodName := ⟨RX0, "beginOrder", "(II)V"⟩
abbrev cX0_sendOrder : ByteArray := prog_2_method_20_code
def yX0_sendOrder : MethodName := ⟨RX0, "sendOrder", "()V"⟩
def RX1 : String := "HouseWires$Device"
def TX1 : u_T := fun k => match k with
  | 0 => ("HouseWires$Station", "out", "LHouseWires$Row;", true)
  | 1 => ("HouseWires$Station", "latestDone", "LHouseWires$Telegram;", true)
  | 2 => ("HouseWires$Device", "address", "I", true)
  | 3 => ("HouseWires$Device", "connection", "LHouseWires$Connection;", true)
  | 4 => ("HouseWires$Device", "draft", "LHouseWires$Telegram;", true)
  | 5 => ("HouseWires$Device", "objects", "[LHouseWires$GroupObject;", true)
  | 6 => ("HouseWires$Device", "linkedObjects", "[I", true)
  | 7 => ("HouseWires$Device", "linkedGroups", "[I", true)
  | 8 => ("HouseWires$Device", "objectCount", "I", false)
  | 9 => ("HouseWires$Device", "linkCount", "I", false)
  | _ => ("HouseWires$Device", "busyFor", "I", false)
def tyX1 : Nat → FieldType := fun k => match k with
  | 0 => .object "HouseWires$Row"
  | 1 => .object "HouseWires$Telegram"
  | 2 => .int
  | 3 => .object "HouseWires$Connection"
  | 4 => .object "HouseWires$Telegram"
  | 5 => .array (.object "HouseWires$GroupObject")
  | 6 => .array .int
  | 7 => .array .int
  | 8 => .int
  | 9 => .int
  | _ => .int
abbrev wsX10 : List Cond := u_ws RX1 TX1 11
theorem nmX1 : ∀ a, a < 11 → ∀ b, b < 11 → a ≠ b → (TX1 a).2.1 ≠ (TX1 b).2.1 := by decide +kernel
theorem tyX1_ok : ∀ k, k < 11 → parseFieldDescriptor (TX1 k).2.2.1 = some (tyX1 k) := by decide +kernel
abbrev cX1_init : ByteArray := prog_3_method_1_code
def yX1_init : MethodName := ⟨RX1, "<init>", "(ILHouseWires$Row;LHouseWires$Telegram;LHouseWires$Connection;)V"⟩
abbrev cX1_findObject : ByteArray := prog_3_method_2_code
def yX1_findObject : MethodName := ⟨RX1, "findObject", "(I)LHouseWires$GroupObject;"⟩
abbrev cX1_addObject : ByteArray := prog_3_method_3_code
def yX1_addObject : MethodName := ⟨RX1, "addObject", "(III)I"⟩
abbrev cX1_addLink : ByteArray := prog_3_method_4_code
def yX1_addLink : MethodName := ⟨RX1, "addLink", "(II)Z"⟩
abbrev cX1_changeObject : ByteArray := prog_3_method_5_code
def yX1_changeObject : MethodName := ⟨RX1, "changeObject", "(II)I"⟩
abbrev cX1_askGroup : ByteArray := prog_3_method_6_code
def yX1_askGroup : MethodName := ⟨RX1, "askGroup", "(I)I"⟩
abbrev cX1_hear : ByteArray := prog_3_method_7_code
def yX1_hear : MethodName := ⟨RX1, "hear", "(LHouseWires$Telegram;I)I"⟩
abbrev cX1_learn : ByteArray := prog_3_method_8_code
def yX1_learn : MethodName := ⟨RX1, "learn", "(IZ)V"⟩
abbrev cX1_isFor : ByteArray := prog_3_method_9_code
def yX1_isFor : MethodName := ⟨RX1, "isFor", "(LHouseWires$Telegram;)Z"⟩
abbrev cX1_ownGroup : ByteArray := prog_3_method_10_code
def yX1_ownGroup : MethodName := ⟨RX1, "ownGroup", "(I)I"⟩
abbrev cX1_serveGroup : ByteArray := prog_3_method_11_code
def yX1_serveGroup : MethodName := ⟨RX1, "serveGroup", "(LHouseWires$Telegram;)V"⟩
abbrev cX1_serveObject : ByteArray := prog_3_method_12_code
def yX1_serveObject : MethodName := ⟨RX1, "serveObject", "(LHouseWires$GroupObject;IILHouseWires$Telegram;)V"⟩
abbrev cX1_sendToGroup : ByteArray := prog_3_method_13_code
def yX1_sendToGroup : MethodName := ⟨RX1, "sendToGroup", "(ILHouseWires$GroupObject;I)V"⟩
def RX2 : String := "HouseWires$Filter"
def TX2 : u_T := fun k => match k with
  | 0 => ("HouseWires$Filter", "groups", "[I", true)
  | 1 => ("HouseWires$Filter", "size", "I", false)
  | _ => ("HouseWires$Filter", "mode", "I", false)
def tyX2 : Nat → FieldType := fun k => match k with
  | 0 => .array .int
  | 1 => .int
  | _ => .int
abbrev wsX20 : List Cond := u_ws RX2 TX2 3
theorem nmX2 : ∀ a, a < 3 → ∀ b, b < 3 → a ≠ b → (TX2 a).2.1 ≠ (TX2 b).2.1 := by decide +kernel
theorem tyX2_ok : ∀ k, k < 3 → parseFieldDescriptor (TX2 k).2.2.1 = some (tyX2 k) := by decide +kernel
abbrev cX2_init : ByteArray := prog_4_method_1_code
def yX2_init : MethodName := ⟨RX2, "<init>", "()V"⟩
abbrev cX2_passes : ByteArray := prog_4_method_2_code
def yX2_passes : MethodName := ⟨RX2, "passes", "(I)Z"⟩
abbrev cX2_change : ByteArray := prog_4_method_3_code
def yX2_change : MethodName := ⟨RX2, "change", "(IZ)Z"⟩
abbrev cX2_placeOf : ByteArray := prog_4_method_4_code
def yX2_placeOf : MethodName := ⟨RX2, "placeOf", "(I)I"⟩
def RX3 : String := "HouseWires$GroupObject"
def TX3 : u_T := fun k => match k with
  | 0 => ("HouseWires$GroupObject", "bits", "I", true)
  | 1 => ("HouseWires$GroupObject", "priority", "I", true)
  | 2 => ("HouseWires$GroupObject", "flags", "I", false)
  | 3 => ("HouseWires$GroupObject", "value", "I", false)
  | _ => ("HouseWires$GroupObject", "updates", "I", false)
def tyX3 : Nat → FieldType := fun k => match k with
  | 0 => .int
  | 1 => .int
  | 2 => .int
  | 3 => .int
  | _ => .int
abbrev wsX30 : List Cond := u_ws RX3 TX3 5
theorem nmX3 : ∀ a, a < 5 → ∀ b, b < 5 → a ≠ b → (TX3 a).2.1 ≠ (TX3 b).2.1 := by decide +kernel
theorem tyX3_ok : ∀ k, k < 5 → parseFieldDescriptor (TX3 k).2.2.1 = some (tyX3 k) := by decide +kernel
abbrev cX3_init : ByteArray := prog_5_method_1_code
def yX3_init : MethodName := ⟨RX3, "<init>", "(III)V"⟩
abbrev cX3_has : ByteArray := prog_5_method_2_code
def yX3_has : MethodName := ⟨RX3, "has", "(I)Z"⟩
abbrev cX3_lowestBits : ByteArray := prog_5_method_3_code
def yX3_lowestBits : MethodName := ⟨RX3, "lowestBits", "(I)I"⟩
abbrev cX3_bytesBehind : ByteArray := prog_5_method_4_code
def yX3_bytesBehind : MethodName := ⟨RX3, "bytesBehind", "()I"⟩
abbrev cX3_takeFrom : ByteArray := prog_5_method_5_code
def yX3_takeFrom : MethodName := ⟨RX3, "takeFrom", "(LHouseWires$Telegram;)V"⟩
def RX4 : String := "HouseWires$Harms"
def TX4 : u_T := fun k => match k with
  | 0 => ("HouseWires$Harms", "numbers", "[I", true)
  | 1 => ("HouseWires$Harms", "places", "[I", true)
  | 2 => ("HouseWires$Harms", "turns", "[I", true)
  | _ => ("HouseWires$Harms", "size", "I", false)
def tyX4 : Nat → FieldType := fun k => match k with
  | 0 => .array .int
  | 1 => .array .int
  | 2 => .array .int
  | _ => .int
abbrev wsX40 : List Cond := u_ws RX4 TX4 4
theorem nmX4 : ∀ a, a < 4 → ∀ b, b < 4 → a ≠ b → (TX4 a).2.1 ≠ (TX4 b).2.1 := by decide +kernel
theorem tyX4_ok : ∀ k, k < 4 → parseFieldDescriptor (TX4 k).2.2.1 = some (tyX4 k) := by decide +kernel
abbrev cX4_init : ByteArray := prog_6_method_1_code
def yX4_init : MethodName := ⟨RX4, "<init>", "()V"⟩
abbrev cX4_add : ByteArray := prog_6_method_2_code
def yX4_add : MethodName := ⟨RX4, "add", "(III)Z"⟩
abbrev cX4_turn : ByteArray := prog_6_method_3_code
def yX4_turn : MethodName := ⟨RX4, "turn", "(LHouseWires$Telegram;I)V"⟩
def RX5 : String := "HouseWires$Line"
def TX5 : u_T := fun k => match k with
  | 0 => ("HouseWires$Line", "number", "I", true)
  | 1 => ("HouseWires$Line", "testerOut", "LHouseWires$Row;", true)
  | 2 => ("HouseWires$Line", "stations", "[LHouseWires$Station;", true)
  | 3 => ("HouseWires$Line", "stationCount", "I", false)
  | 4 => ("HouseWires$Line", "deviceCount", "I", false)
  | _ => ("HouseWires$Line", "joined", "I", false)
def tyX5 : Nat → FieldType := fun k => match k with
  | 0 => .int
  | 1 => .object "HouseWires$Row"
  | 2 => .array (.object "HouseWires$Station")
  | 3 => .int
  | 4 => .int
  | _ => .int
abbrev wsX50 : List Cond := u_ws RX5 TX5 6
theorem nmX5 : ∀ a, a < 6 → ∀ b, b < 6 → a ≠ b → (TX5 a).2.1 ≠ (TX5 b).2.1 := by decide +kernel
theorem tyX5_ok : ∀ k, k < 6 → parseFieldDescriptor (TX5 k).2.2.1 = some (tyX5 k) := by decide +kernel
abbrev cX5_init : ByteArray := prog_7_method_1_code
def yX5_init : MethodName := ⟨RX5, "<init>", "(IILHouseWires$Tally;)V"⟩
abbrev cX5_isJoinedWith : ByteArray := prog_7_method_2_code
def yX5_isJoinedWith : MethodName := ⟨RX5, "isJoinedWith", "(I)Z"⟩
abbrev cX5_addDevice : ByteArray := prog_7_method_3_code
def yX5_addDevice : MethodName := ⟨RX5, "addDevice", "(LHouseWires$Device;)V"⟩
abbrev cX5_addPort : ByteArray := prog_7_method_4_code
def yX5_addPort : MethodName := ⟨RX5, "addPort", "(LHouseWires$Port;)V"⟩
abbrev cX5_chooseSender : ByteArray := prog_7_method_5_code
def yX5_chooseSender : MethodName := ⟨RX5, "chooseSender", "()LHouseWires$Row;"⟩
abbrev cX5_goesAhead : ByteArray := prog_7_method_6_code
def yX5_goesAhead : MethodName := ⟨RX5, "goesAhead", "(LHouseWires$Telegram;LHouseWires$Telegram;)Z"⟩
def RX6 : String := "HouseWires$Port"
def TX6 : u_T := fun k => match k with
  | 0 => ("HouseWires$Station", "out", "LHouseWires$Row;", true)
  | 1 => ("HouseWires$Station", "latestDone", "LHouseWires$Telegram;", true)
  | 2 => ("HouseWires$Port", "across", "LHouseWires$Row;", true)
  | 3 => ("HouseWires$Port", "filter", "LHouseWires$Filter;", true)
  | _ => ("HouseWires$Port", "behind", "I", false)
def tyX6 : Nat → FieldType := fun k => match k with
  | 0 => .object "HouseWires$Row"
  | 1 => .object "HouseWires$Telegram"
  | 2 => .object "HouseWires$Row"
  | 3 => .object "HouseWires$Filter"
  | _ => .int
abbrev wsX60 : List Cond := u_ws RX6 TX6 5
theorem nmX6 : ∀ a, a < 5 → ∀ b, b < 5 → a ≠ b → (TX6 a).2.1 ≠ (TX6 b).2.1 := by decide +kernel
theorem tyX6_ok : ∀ k, k < 5 → parseFieldDescriptor (TX6 k).2.2.1 = some (tyX6 k) := by decide +kernel
abbrev cX6_init : ByteArray := prog_8_method_1_code
def yX6_init : MethodName := ⟨RX6, "<init>", "(LHouseWires$Row;LHouseWires$Row;LHouseWires$Filter;I)V"⟩
abbrev cX6_widen : ByteArray := prog_8_method_2_code
def yX6_widen : MethodName := ⟨RX6, "widen", "(IIII)V"⟩
abbrev cX6_hear : ByteArray := prog_8_method_3_code
def yX6_hear : MethodName := ⟨RX6, "hear", "(LHouseWires$Telegram;I)I"⟩
abbrev cX6_learn : ByteArray := prog_8_method_4_code
def yX6_learn : MethodName := ⟨RX6, "learn", "(IZ)V"⟩
abbrev cX6_leadsTo : ByteArray := prog_8_method_5_code
def yX6_leadsTo : MethodName := ⟨RX6, "leadsTo", "(I)Z"⟩
def RX7 : String := "HouseWires$Row"
def TX7 : u_T := fun k => match k with
  | 0 => ("HouseWires$Row", "slots", "[LHouseWires$Telegram;", true)
  | 1 => ("HouseWires$Row", "tally", "LHouseWires$Tally;", true)
  | _ => ("HouseWires$Row", "size", "I", false)
def tyX7 : Nat → FieldType := fun k => match k with
  | 0 => .array (.object "HouseWires$Telegram")
  | 1 => .object "HouseWires$Tally"
  | _ => .int
abbrev wsX70 : List Cond := u_ws RX7 TX7 3
theorem nmX7 : ∀ a, a < 3 → ∀ b, b < 3 → a ≠ b → (TX7 a).2.1 ≠ (TX7 b).2.1 := by decide +kernel
theorem tyX7_ok : ∀ k, k < 3 → parseFieldDescriptor (TX7 k).2.2.1 = some (tyX7 k) := by decide +kernel
abbrev cX7_init : ByteArray := prog_9_method_1_code
def yX7_init : MethodName := ⟨RX7, "<init>", "(LHouseWires$Tally;)V"⟩
abbrev cX7_isFull : ByteArray := prog_9_method_2_code
def yX7_isFull : MethodName := ⟨RX7, "isFull", "()Z"⟩
abbrev cX7_add : ByteArray := prog_9_method_3_code
def yX7_add : MethodName := ⟨RX7, "add", "(LHouseWires$Telegram;)LHouseWires$Telegram;"⟩
abbrev cX7_ready : ByteArray := prog_9_method_4_code
def yX7_ready : MethodName := ⟨RX7, "ready", "()LHouseWires$Telegram;"⟩
abbrev cX7_removeFirst : ByteArray := prog_9_method_5_code
def yX7_removeFirst : MethodName := ⟨RX7, "removeFirst", "()V"⟩
def RX8 : String := "HouseWires$Station"
def TX8 : u_T := fun k => match k with
  | _ => ("", "", "", false)
def tyX8 : Nat → FieldType := fun k => match k with
  | _ => .int
abbrev wsX80 : List Cond := u_ws RX8 TX8 0
theorem nmX8 : ∀ a, a < 0 → ∀ b, b < 0 → a ≠ b → (TX8 a).2.1 ≠ (TX8 b).2.1 := by decide +kernel
theorem tyX8_ok : ∀ k, k < 0 → parseFieldDescriptor (TX8 k).2.2.1 = some (tyX8 k) := by decide +kernel
abbrev cX8_init : ByteArray := prog_10_method_1_code
def yX8_init : MethodName := ⟨RX8, "<init>", "(LHouseWires$Row;)V"⟩
abbrev cX8_didAlready : ByteArray := prog_10_method_4_code
def yX8_didAlready : MethodName := ⟨RX8, "didAlready", "(LHouseWires$Telegram;)Z"⟩
def RX9 : String := "HouseWires$Tally"
def TX9 : u_T := fun k => match k with
  | 0 => ("HouseWires$Tally", "clock", "I", false)
  | 1 => ("HouseWires$Tally", "sent", "I", false)
  | 2 => ("HouseWires$Tally", "done", "I", false)
  | 3 => ("HouseWires$Tally", "lost", "I", false)
  | 4 => ("HouseWires$Tally", "dropped", "I", false)
  | 5 => ("HouseWires$Tally", "passed", "I", false)
  | _ => ("HouseWires$Tally", "inRows", "I", false)
def tyX9 : Nat → FieldType := fun k => match k with
  | 0 => .int
  | 1 => .int
  | 2 => .int
  | 3 => .int
  | 4 => .int
  | 5 => .int
  | _ => .int
abbrev wsX90 : List Cond := u_ws RX9 TX9 7
theorem nmX9 : ∀ a, a < 7 → ∀ b, b < 7 → a ≠ b → (TX9 a).2.1 ≠ (TX9 b).2.1 := by decide +kernel
theorem tyX9_ok : ∀ k, k < 7 → parseFieldDescriptor (TX9 k).2.2.1 = some (tyX9 k) := by decide +kernel
abbrev cX9_init : ByteArray := prog_11_method_1_code
def yX9_init : MethodName := ⟨RX9, "<init>", "()V"⟩
def RX10 : String := "HouseWires$Telegram"
def TX10 : u_T := fun k => match k with
  | 0 => ("HouseWires$Telegram", "bytes", "[I", true)
  | 1 => ("HouseWires$Telegram", "length", "I", false)
  | 2 => ("HouseWires$Telegram", "came", "I", false)
  | 3 => ("HouseWires$Telegram", "sendings", "I", false)
  | _ => ("HouseWires$Telegram", "join", "I", false)
def tyX10 : Nat → FieldType := fun k => match k with
  | 0 => .array .int
  | 1 => .int
  | 2 => .int
  | 3 => .int
  | _ => .int
abbrev wsX100 : List Cond := u_ws RX10 TX10 5
theorem nmX10 : ∀ a, a < 5 → ∀ b, b < 5 → a ≠ b → (TX10 a).2.1 ≠ (TX10 b).2.1 := by decide +kernel
theorem tyX10_ok : ∀ k, k < 5 → parseFieldDescriptor (TX10 k).2.2.1 = some (tyX10 k) := by decide +kernel
abbrev cX10_init : ByteArray := prog_12_method_1_code
def yX10_init : MethodName := ⟨RX10, "<init>", "()V"⟩
abbrev cX10_copyBytes : ByteArray := prog_12_method_2_code
def yX10_copyBytes : MethodName := ⟨RX10, "copyBytes", "(LHouseWires$Telegram;)V"⟩
abbrev cX10_begin : ByteArray := prog_12_method_3_code
def yX10_begin : MethodName := ⟨RX10, "begin", "(IIII)V"⟩
abbrev cX10_append : ByteArray := prog_12_method_4_code
def yX10_append : MethodName := ⟨RX10, "append", "(I)V"⟩
abbrev cX10_seal : ByteArray := prog_12_method_5_code
def yX10_seal : MethodName := ⟨RX10, "seal", "()V"⟩
abbrev cX10_isGood : ByteArray := prog_12_method_6_code
def yX10_isGood : MethodName := ⟨RX10, "isGood", "()Z"⟩
abbrev cX10_isRepeated : ByteArray := prog_12_method_7_code
def yX10_isRepeated : MethodName := ⟨RX10, "isRepeated", "()Z"⟩
abbrev cX10_markRepeated : ByteArray := prog_12_method_8_code
def yX10_markRepeated : MethodName := ⟨RX10, "markRepeated", "()V"⟩
abbrev cX10_isPressing : ByteArray := prog_12_method_9_code
def yX10_isPressing : MethodName := ⟨RX10, "isPressing", "()Z"⟩
abbrev cX10_winsOver : ByteArray := prog_12_method_10_code
def yX10_winsOver : MethodName := ⟨RX10, "winsOver", "(LHouseWires$Telegram;)Z"⟩
abbrev cX10_isLike : ByteArray := prog_12_method_11_code
def yX10_isLike : MethodName := ⟨RX10, "isLike", "(LHouseWires$Telegram;)Z"⟩
abbrev cX10_isOfGroup : ByteArray := prog_12_method_12_code
def yX10_isOfGroup : MethodName := ⟨RX10, "isOfGroup", "()Z"⟩
abbrev cX10_source : ByteArray := prog_12_method_13_code
def yX10_source : MethodName := ⟨RX10, "source", "()I"⟩
abbrev cX10_goal : ByteArray := prog_12_method_14_code
def yX10_goal : MethodName := ⟨RX10, "goal", "()I"⟩
abbrev cX10_hops : ByteArray := prog_12_method_15_code
def yX10_hops : MethodName := ⟨RX10, "hops", "()I"⟩
abbrev cX10_pduLength : ByteArray := prog_12_method_16_code
def yX10_pduLength : MethodName := ⟨RX10, "pduLength", "()I"⟩
abbrev cX10_passOn : ByteArray := prog_12_method_17_code
def yX10_passOn : MethodName := ⟨RX10, "passOn", "()V"⟩
def RX11 : String := "HouseWires"
def TX11 : u_T := fun k => match k with
  | 0 => ("HouseWires", "tally", "LHouseWires$Tally;", true)
  | 1 => ("HouseWires", "lines", "[LHouseWires$Line;", true)
  | 2 => ("HouseWires", "devices", "[LHouseWires$Device;", true)
  | 3 => ("HouseWires", "filters", "[LHouseWires$Filter;", true)
  | 4 => ("HouseWires", "ports", "[LHouseWires$Port;", true)
  | 5 => ("HouseWires", "harms", "LHouseWires$Harms;", true)
  | 6 => ("HouseWires", "tape", "[I", true)
  | 7 => ("HouseWires", "latest", "LHouseWires$Telegram;", true)
  | 8 => ("HouseWires", "heard", "LHouseWires$Telegram;", true)
  | 9 => ("HouseWires", "lineCount", "I", false)
  | 10 => ("HouseWires", "deviceCount", "I", false)
  | 11 => ("HouseWires", "couplerCount", "I", false)
  | 12 => ("HouseWires", "tapeLength", "I", false)
  | 13 => ("HouseWires", "latestLine", "I", false)
  | _ => ("HouseWires", "latestAnswer", "I", false)
def tyX11 : Nat → FieldType := fun k => match k with
  | 0 => .object "HouseWires$Tally"
  | 1 => .array (.object "HouseWires$Line")
  | 2 => .array (.object "HouseWires$Device")
  | 3 => .array (.object "HouseWires$Filter")
  | 4 => .array (.object "HouseWires$Port")
  | 5 => .object "HouseWires$Harms"
  | 6 => .array .int
  | 7 => .object "HouseWires$Telegram"
  | 8 => .object "HouseWires$Telegram"
  | 9 => .int
  | 10 => .int
  | 11 => .int
  | 12 => .int
  | 13 => .int
  | _ => .int
abbrev wsX110 : List Cond := u_ws RX11 TX11 15
theorem nmX11 : ∀ a, a < 15 → ∀ b, b < 15 → a ≠ b → (TX11 a).2.1 ≠ (TX11 b).2.1 := by decide +kernel
theorem tyX11_ok : ∀ k, k < 15 → parseFieldDescriptor (TX11 k).2.2.1 = some (tyX11 k) := by decide +kernel
abbrev cX11_init : ByteArray := prog_1_method_1_code
def yX11_init : MethodName := ⟨RX11, "<init>", "()V"⟩
abbrev cX11_line : ByteArray := prog_1_method_2_code
def yX11_line : MethodName := ⟨RX11, "line", "(I)I"⟩
abbrev cX11_device : ByteArray := prog_1_method_3_code
def yX11_device : MethodName := ⟨RX11, "device", "(II)I"⟩
abbrev cX11_coupler : ByteArray := prog_1_method_4_code
def yX11_coupler : MethodName := ⟨RX11, "coupler", "(II)I"⟩
abbrev cX11_mode : ByteArray := prog_1_method_5_code
def yX11_mode : MethodName := ⟨RX11, "mode", "(II)Z"⟩
abbrev cX11_filter : ByteArray := prog_1_method_6_code
def yX11_filter : MethodName := ⟨RX11, "filter", "(IIZ)Z"⟩
abbrev cX11_object : ByteArray := prog_1_method_7_code
def yX11_object : MethodName := ⟨RX11, "object", "(IIII)I"⟩
abbrev cX11_flags : ByteArray := prog_1_method_8_code
def yX11_flags : MethodName := ⟨RX11, "flags", "(III)Z"⟩
abbrev cX11_link : ByteArray := prog_1_method_9_code
def yX11_link : MethodName := ⟨RX11, "link", "(III)Z"⟩
abbrev cX11_set : ByteArray := prog_1_method_10_code
def yX11_set : MethodName := ⟨RX11, "set", "(III)I"⟩
abbrev cX11_ask : ByteArray := prog_1_method_11_code
def yX11_ask : MethodName := ⟨RX11, "ask", "(II)I"⟩
abbrev cX11_value : ByteArray := prog_1_method_12_code
def yX11_value : MethodName := ⟨RX11, "value", "(II)J"⟩
abbrev cX11_updated : ByteArray := prog_1_method_13_code
def yX11_updated : MethodName := ⟨RX11, "updated", "(II)I"⟩
abbrev cX11_hundredths : ByteArray := prog_1_method_14_code
def yX11_hundredths : MethodName := ⟨RX11, "hundredths", "(II)J"⟩
abbrev cX11_point : ByteArray := prog_1_method_15_code
def yX11_point : MethodName := ⟨RX11, "point", "(III)I"⟩
abbrev cX11_connect : ByteArray := prog_1_method_16_code
def yX11_connect : MethodName := ⟨RX11, "connect", "(II)Z"⟩
abbrev cX11_disconnect : ByteArray := prog_1_method_17_code
def yX11_disconnect : MethodName := ⟨RX11, "disconnect", "(I)Z"⟩
abbrev cX11_peek : ByteArray := prog_1_method_18_code
def yX11_peek : MethodName := ⟨RX11, "peek", "(III)Z"⟩
abbrev cX11_poke : ByteArray := prog_1_method_19_code
def yX11_poke : MethodName := ⟨RX11, "poke", "(IIII)Z"⟩
abbrev cX11_memory : ByteArray := prog_1_method_20_code
def yX11_memory : MethodName := ⟨RX11, "memory", "(II)I"⟩
abbrev cX11_store : ByteArray := prog_1_method_21_code
def yX11_store : MethodName := ⟨RX11, "store", "(III)Z"⟩
abbrev cX11_reply : ByteArray := prog_1_method_22_code
def yX11_reply : MethodName := ⟨RX11, "reply", "(II)I"⟩
abbrev cX11_connection : ByteArray := prog_1_method_23_code
def yX11_connection : MethodName := ⟨RX11, "connection", "(II)I"⟩
abbrev cX11_busy : ByteArray := prog_1_method_24_code
def yX11_busy : MethodName := ⟨RX11, "busy", "(II)Z"⟩
abbrev cX11_feed : ByteArray := prog_1_method_25_code
def yX11_feed : MethodName := ⟨RX11, "feed", "(IIIII)I"⟩
abbrev cX11_end : ByteArray := prog_1_method_26_code
def yX11_end : MethodName := ⟨RX11, "end", "(I)I"⟩
abbrev cX11_raw : ByteArray := prog_1_method_27_code
def yX11_raw : MethodName := ⟨RX11, "raw", "(I)I"⟩
abbrev cX11_harm : ByteArray := prog_1_method_28_code
def yX11_harm : MethodName := ⟨RX11, "harm", "(III)Z"⟩
abbrev cX11_step : ByteArray := prog_1_method_29_code
def yX11_step : MethodName := ⟨RX11, "step", "(I)I"⟩
abbrev cX11_sent : ByteArray := prog_1_method_30_code
def yX11_sent : MethodName := ⟨RX11, "sent", "(I)I"⟩
abbrev cX11_count : ByteArray := prog_1_method_31_code
def yX11_count : MethodName := ⟨RX11, "count", "(I)I"⟩
abbrev cX11_isWithin : ByteArray := prog_1_method_32_code
def yX11_isWithin : MethodName := ⟨RX11, "isWithin", "(III)Z"⟩
abbrev cX11_lineAt : ByteArray := prog_1_method_33_code
def yX11_lineAt : MethodName := ⟨RX11, "lineAt", "(I)LHouseWires$Line;"⟩
abbrev cX11_deviceAt : ByteArray := prog_1_method_34_code
def yX11_deviceAt : MethodName := ⟨RX11, "deviceAt", "(I)LHouseWires$Device;"⟩
abbrev cX11_filterAt : ByteArray := prog_1_method_35_code
def yX11_filterAt : MethodName := ⟨RX11, "filterAt", "(I)LHouseWires$Filter;"⟩
abbrev cX11_objectAt : ByteArray := prog_1_method_36_code
def yX11_objectAt : MethodName := ⟨RX11, "objectAt", "(II)LHouseWires$GroupObject;"⟩
abbrev cX11_lineOfNumber : ByteArray := prog_1_method_37_code
def yX11_lineOfNumber : MethodName := ⟨RX11, "lineOfNumber", "(I)I"⟩
abbrev cX11_hasDeviceOf : ByteArray := prog_1_method_38_code
def yX11_hasDeviceOf : MethodName := ⟨RX11, "hasDeviceOf", "(I)Z"⟩
abbrev cX11_joinLines : ByteArray := prog_1_method_39_code
def yX11_joinLines : MethodName := ⟨RX11, "joinLines", "(IIII)V"⟩
abbrev cX11_withPoint : ByteArray := prog_1_method_40_code
def yX11_withPoint : MethodName := ⟨RX11, "withPoint", "(I)I"⟩
abbrev cX11_feedNumber : ByteArray := prog_1_method_41_code
def yX11_feedNumber : MethodName := ⟨RX11, "feedNumber", "(I)V"⟩
abbrev cX11_transmit : ByteArray := prog_1_method_42_code
def yX11_transmit : MethodName := ⟨RX11, "transmit", "(ILHouseWires$Row;)V"⟩
abbrev cX11_putOnWire : ByteArray := prog_1_method_43_code
def yX11_putOnWire : MethodName := ⟨RX11, "putOnWire", "(LHouseWires$Telegram;I)V"⟩
abbrev cX11_finish : ByteArray := prog_1_method_44_code
def yX11_finish : MethodName := ⟨RX11, "finish", "(LHouseWires$Row;LHouseWires$Station;Z)V"⟩
def RX12 : String := "HouseWiresModel$Coupler"
def TX12 : u_T := fun k => match k with
  | 0 => ("HouseWiresModel$Coupler", "line", "[I", true)
  | 1 => ("HouseWiresModel$Coupler", "mode", "I", false)
  | 2 => ("HouseWiresModel$Coupler", "filter", "[I", true)
  | 3 => ("HouseWiresModel$Coupler", "filters", "I", false)
  | 4 => ("HouseWiresModel$Coupler", "out", "[LHouseWiresModel$Out;", true)
  | 5 => ("HouseWiresModel$Coupler", "latest", "[[I", true)
  | _ => ("HouseWiresModel$Coupler", "latestSize", "[I", true)
def tyX12 : Nat → FieldType := fun k => match k with
  | 0 => .array .int
  | 1 => .int
  | 2 => .array .int
  | 3 => .int
  | 4 => .array (.object "HouseWiresModel$Out")
  | 5 => .array (.array .int)
  | _ => .array .int
abbrev wsX120 : List Cond := u_ws RX12 TX12 7
theorem nmX12 : ∀ a, a < 7 → ∀ b, b < 7 → a ≠ b → (TX12 a).2.1 ≠ (TX12 b).2.1 := by decide +kernel
theorem tyX12_ok : ∀ k, k < 7 → parseFieldDescriptor (TX12 k).2.2.1 = some (tyX12 k) := by decide +kernel
abbrev cX12_init : ByteArray := prog_15_method_1_code
def yX12_init : MethodName := ⟨RX12, "<init>", "()V"⟩
def RX13 : String := "HouseWiresModel$Device"
def TX13 : u_T := fun k => match k with
  | 0 => ("HouseWiresModel$Device", "line", "I", false)
  | 1 => ("HouseWiresModel$Device", "address", "I", false)
  | 2 => ("HouseWiresModel$Device", "out", "LHouseWiresModel$Out;", true)
  | 3 => ("HouseWiresModel$Device", "busy", "I", false)
  | 4 => ("HouseWiresModel$Device", "latest", "[I", true)
  | 5 => ("HouseWiresModel$Device", "latestSize", "I", false)
  | 6 => ("HouseWiresModel$Device", "objects", "I", false)
  | 7 => ("HouseWiresModel$Device", "bits", "[I", true)
  | 8 => ("HouseWiresModel$Device", "value", "[I", true)
  | 9 => ("HouseWiresModel$Device", "priority", "[I", true)
  | 10 => ("HouseWiresModel$Device", "flags", "[I", true)
  | 11 => ("HouseWiresModel$Device", "updates", "[I", true)
  | 12 => ("HouseWiresModel$Device", "links", "I", false)
  | 13 => ("HouseWiresModel$Device", "linkObject", "[I", true)
  | 14 => ("HouseWiresModel$Device", "linkGroup", "[I", true)
  | 15 => ("HouseWiresModel$Device", "memory", "[I", true)
  | 16 => ("HouseWiresModel$Device", "reply", "[I", true)
  | 17 => ("HouseWiresModel$Device", "replySize", "I", false)
  | 18 => ("HouseWiresModel$Device", "how", "I", false)
  | 19 => ("HouseWiresModel$Device", "partner", "I", false)
  | 20 => ("HouseWiresModel$Device", "sent", "I", false)
  | 21 => ("HouseWiresModel$Device", "got", "I", false)
  | 22 => ("HouseWiresModel$Device", "tries", "I", false)
  | 23 => ("HouseWiresModel$Device", "pause", "I", false)
  | 24 => ("HouseWiresModel$Device", "idle", "I", false)
  | 25 => ("HouseWiresModel$Device", "opening", "I", false)
  | 26 => ("HouseWiresModel$Device", "data", "[I", true)
  | _ => ("HouseWiresModel$Device", "dataSize", "I", false)
def tyX13 : Nat → FieldType := fun k => match k with
  | 0 => .int
  | 1 => .int
  | 2 => .object "HouseWiresModel$Out"
  | 3 => .int
  | 4 => .array .int
  | 5 => .int
  | 6 => .int
  | 7 => .array .int
  | 8 => .array .int
  | 9 => .array .int
  | 10 => .array .int
  | 11 => .array .int
  | 12 => .int
  | 13 => .array .int
  | 14 => .array .int
  | 15 => .array .int
  | 16 => .array .int
  | 17 => .int
  | 18 => .int
  | 19 => .int
  | 20 => .int
  | 21 => .int
  | 22 => .int
  | 23 => .int
  | 24 => .int
  | 25 => .int
  | 26 => .array .int
  | _ => .int
abbrev wsX130 : List Cond := u_ws RX13 TX13 28
theorem nmX13 : ∀ a, a < 28 → ∀ b, b < 28 → a ≠ b → (TX13 a).2.1 ≠ (TX13 b).2.1 := by decide +kernel
theorem tyX13_ok : ∀ k, k < 28 → parseFieldDescriptor (TX13 k).2.2.1 = some (tyX13 k) := by decide +kernel
abbrev cX13_init : ByteArray := prog_16_method_1_code
def yX13_init : MethodName := ⟨RX13, "<init>", "()V"⟩
def RX14 : String := "HouseWiresModel$Out"
def TX14 : u_T := fun k => match k with
  | 0 => ("HouseWiresModel$Out", "bytes", "[[I", true)
  | 1 => ("HouseWiresModel$Out", "size", "[I", true)
  | 2 => ("HouseWiresModel$Out", "came", "[I", true)
  | 3 => ("HouseWiresModel$Out", "times", "[I", true)
  | 4 => ("HouseWiresModel$Out", "id", "[I", true)
  | _ => ("HouseWiresModel$Out", "many", "I", false)
def tyX14 : Nat → FieldType := fun k => match k with
  | 0 => .array (.array .int)
  | 1 => .array .int
  | 2 => .array .int
  | 3 => .array .int
  | 4 => .array .int
  | _ => .int
abbrev wsX140 : List Cond := u_ws RX14 TX14 6
theorem nmX14 : ∀ a, a < 6 → ∀ b, b < 6 → a ≠ b → (TX14 a).2.1 ≠ (TX14 b).2.1 := by decide +kernel
theorem tyX14_ok : ∀ k, k < 6 → parseFieldDescriptor (TX14 k).2.2.1 = some (tyX14 k) := by decide +kernel
abbrev cX14_init : ByteArray := prog_17_method_1_code
def yX14_init : MethodName := ⟨RX14, "<init>", "()V"⟩
abbrev cX14_goes : ByteArray := prog_17_method_2_code
def yX14_goes : MethodName := ⟨RX14, "goes", "()V"⟩
def RX15 : String := "HouseWiresModel"
def TX15 : u_T := fun k => match k with
  | 0 => ("HouseWiresModel", "thrown", "I", false)
  | 1 => ("HouseWiresModel", "clock", "I", false)
  | 2 => ("HouseWiresModel", "ids", "I", false)
  | 3 => ("HouseWiresModel", "dropped", "I", false)
  | 4 => ("HouseWiresModel", "lines", "I", false)
  | 5 => ("HouseWiresModel", "lineNumber", "[I", true)
  | 6 => ("HouseWiresModel", "testers", "[LHouseWiresModel$Out;", true)
  | 7 => ("HouseWiresModel", "deviceMany", "I", false)
  | 8 => ("HouseWiresModel", "devices", "[LHouseWiresModel$Device;", true)
  | 9 => ("HouseWiresModel", "couplerMany", "I", false)
  | 10 => ("HouseWiresModel", "couplers", "[LHouseWiresModel$Coupler;", true)
  | 11 => ("HouseWiresModel", "made", "[I", true)
  | 12 => ("HouseWiresModel", "one", "[I", true)
  | 13 => ("HouseWiresModel", "act", "[I", true)
  | 14 => ("HouseWiresModel", "answer", "[I", true)
  | 15 => ("HouseWiresModel", "sentAll", "I", false)
  | 16 => ("HouseWiresModel", "done", "I", false)
  | 17 => ("HouseWiresModel", "lost", "I", false)
  | 18 => ("HouseWiresModel", "passed", "I", false)
  | 19 => ("HouseWiresModel", "latestAnswer", "I", false)
  | 20 => ("HouseWiresModel", "latestLine", "I", false)
  | 21 => ("HouseWiresModel", "latest", "[I", true)
  | 22 => ("HouseWiresModel", "latestSize", "I", false)
  | 23 => ("HouseWiresModel", "harmOf", "[I", true)
  | 24 => ("HouseWiresModel", "harmPlace", "[I", true)
  | 25 => ("HouseWiresModel", "harmBy", "[I", true)
  | 26 => ("HouseWiresModel", "harms", "I", false)
  | 27 => ("HouseWiresModel", "outs", "[LHouseWiresModel$Out;", true)
  | 28 => ("HouseWiresModel", "who", "[I", true)
  | 29 => ("HouseWiresModel", "wants", "[Z", true)
  | 30 => ("HouseWiresModel", "stations", "I", false)
  | 31 => ("HouseWiresModel", "heard", "[I", true)
  | 32 => ("HouseWiresModel", "heardSize", "I", false)
  | 33 => ("HouseWiresModel", "pdu", "[I", true)
  | 34 => ("HouseWiresModel", "onward", "[I", true)
  | 35 => ("HouseWiresModel", "reached", "[Z", true)
  | 36 => ("HouseWiresModel", "answersMet", "[Z", true)
  | 37 => ("HouseWiresModel", "order", "[I", true)
  | 38 => ("HouseWiresModel", "tape", "[I", true)
  | _ => ("HouseWiresModel", "taped", "I", false)
def tyX15 : Nat → FieldType := fun k => match k with
  | 0 => .int
  | 1 => .int
  | 2 => .int
  | 3 => .int
  | 4 => .int
  | 5 => .array .int
  | 6 => .array (.object "HouseWiresModel$Out")
  | 7 => .int
  | 8 => .array (.object "HouseWiresModel$Device")
  | 9 => .int
  | 10 => .array (.object "HouseWiresModel$Coupler")
  | 11 => .array .int
  | 12 => .array .int
  | 13 => .array .int
  | 14 => .array .int
  | 15 => .int
  | 16 => .int
  | 17 => .int
  | 18 => .int
  | 19 => .int
  | 20 => .int
  | 21 => .array .int
  | 22 => .int
  | 23 => .array .int
  | 24 => .array .int
  | 25 => .array .int
  | 26 => .int
  | 27 => .array (.object "HouseWiresModel$Out")
  | 28 => .array .int
  | 29 => .array .boolean
  | 30 => .int
  | 31 => .array .int
  | 32 => .int
  | 33 => .array .int
  | 34 => .array .int
  | 35 => .array .boolean
  | 36 => .array .boolean
  | 37 => .array .int
  | 38 => .array .int
  | _ => .int
abbrev wsX150 : List Cond := u_ws RX15 TX15 40
theorem nmX15 : ∀ a, a < 40 → ∀ b, b < 40 → a ≠ b → (TX15 a).2.1 ≠ (TX15 b).2.1 := by decide +kernel
theorem tyX15_ok : ∀ k, k < 40 → parseFieldDescriptor (TX15 k).2.2.1 = some (tyX15 k) := by decide +kernel
abbrev cX15_init : ByteArray := prog_14_method_1_code
def yX15_init : MethodName := ⟨RX15, "<init>", "()V"⟩
abbrev cX15_thrown : ByteArray := prog_14_method_2_code
def yX15_thrown : MethodName := ⟨RX15, "thrown", "()I"⟩
abbrev cX15_in : ByteArray := prog_14_method_3_code
def yX15_in : MethodName := ⟨RX15, "in", "(III)Z"⟩
abbrev cX15_comes : ByteArray := prog_14_method_4_code
def yX15_comes : MethodName := ⟨RX15, "comes", "(LHouseWiresModel$Out;[II)I"⟩
abbrev cX15_checkOf : ByteArray := prog_14_method_5_code
def yX15_checkOf : MethodName := ⟨RX15, "checkOf", "([II)I"⟩
abbrev cX15_isGood : ByteArray := prog_14_method_6_code
def yX15_isGood : MethodName := ⟨RX15, "isGood", "([II)Z"⟩
abbrev cX15_goalOf : ByteArray := prog_14_method_7_code
def yX15_goalOf : MethodName := ⟨RX15, "goalOf", "([I)I"⟩
abbrev cX15_sourceOf : ByteArray := prog_14_method_8_code
def yX15_sourceOf : MethodName := ⟨RX15, "sourceOf", "([I)I"⟩
abbrev cX15_isRepeated : ByteArray := prog_14_method_9_code
def yX15_isRepeated : MethodName := ⟨RX15, "isRepeated", "([I)Z"⟩
abbrev cX15_isStrong : ByteArray := prog_14_method_10_code
def yX15_isStrong : MethodName := ⟨RX15, "isStrong", "([I)Z"⟩
abbrev cX15_isLike : ByteArray := prog_14_method_11_code
def yX15_isLike : MethodName := ⟨RX15, "isLike", "([II[II)Z"⟩
abbrev cX15_isLine : ByteArray := prog_14_method_12_code
def yX15_isLine : MethodName := ⟨RX15, "isLine", "(I)Z"⟩
abbrev cX15_isDevice : ByteArray := prog_14_method_13_code
def yX15_isDevice : MethodName := ⟨RX15, "isDevice", "(I)Z"⟩
abbrev cX15_isCoupler : ByteArray := prog_14_method_14_code
def yX15_isCoupler : MethodName := ⟨RX15, "isCoupler", "(I)Z"⟩
abbrev cX15_isObject : ByteArray := prog_14_method_15_code
def yX15_isObject : MethodName := ⟨RX15, "isObject", "(II)Z"⟩
abbrev cX15_tells : ByteArray := prog_14_method_16_code
def yX15_tells : MethodName := ⟨RX15, "tells", "(LHouseWiresModel$Device;IZI[II)I"⟩
abbrev cX15_tellsOne : ByteArray := prog_14_method_17_code
def yX15_tellsOne : MethodName := ⟨RX15, "tellsOne", "(LHouseWiresModel$Device;II)I"⟩
abbrev cX15_cut : ByteArray := prog_14_method_18_code
def yX15_cut : MethodName := ⟨RX15, "cut", "(II)I"⟩
abbrev cX15_bytesOf : ByteArray := prog_14_method_19_code
def yX15_bytesOf : MethodName := ⟨RX15, "bytesOf", "(I)I"⟩
abbrev cX15_tellsValue : ByteArray := prog_14_method_20_code
def yX15_tellsValue : MethodName := ⟨RX15, "tellsValue", "(LHouseWiresModel$Device;III)V"⟩
abbrev cX15_ownGroup : ByteArray := prog_14_method_21_code
def yX15_ownGroup : MethodName := ⟨RX15, "ownGroup", "(LHouseWiresModel$Device;I)I"⟩
abbrev cX15_hasLink : ByteArray := prog_14_method_22_code
def yX15_hasLink : MethodName := ⟨RX15, "hasLink", "(LHouseWiresModel$Device;I)Z"⟩
abbrev cX15_doesGroup : ByteArray := prog_14_method_23_code
def yX15_doesGroup : MethodName := ⟨RX15, "doesGroup", "(LHouseWiresModel$Device;[III)V"⟩
abbrev cX15_closes : ByteArray := prog_14_method_24_code
def yX15_closes : MethodName := ⟨RX15, "closes", "(LHouseWiresModel$Device;)V"⟩
abbrev cX15_sendsData : ByteArray := prog_14_method_25_code
def yX15_sendsData : MethodName := ⟨RX15, "sendsData", "(LHouseWiresModel$Device;[II)V"⟩
abbrev cX15_again : ByteArray := prog_14_method_26_code
def yX15_again : MethodName := ⟨RX15, "again", "(LHouseWiresModel$Device;)V"⟩
abbrev cX15_doesAddress : ByteArray := prog_14_method_27_code
def yX15_doesAddress : MethodName := ⟨RX15, "doesAddress", "(LHouseWiresModel$Device;[III)V"⟩
abbrev cX15_opens : ByteArray := prog_14_method_28_code
def yX15_opens : MethodName := ⟨RX15, "opens", "(LHouseWiresModel$Device;I)V"⟩
abbrev cX15_answers : ByteArray := prog_14_method_29_code
def yX15_answers : MethodName := ⟨RX15, "answers", "(LHouseWiresModel$Device;II)V"⟩
abbrev cX15_data : ByteArray := prog_14_method_30_code
def yX15_data : MethodName := ⟨RX15, "data", "(LHouseWiresModel$Device;[III)V"⟩
abbrev cX15_orders : ByteArray := prog_14_method_31_code
def yX15_orders : MethodName := ⟨RX15, "orders", "(LHouseWiresModel$Device;[II)V"⟩
abbrev cX15_times : ByteArray := prog_14_method_32_code
def yX15_times : MethodName := ⟨RX15, "times", "(LHouseWiresModel$Device;)V"⟩
abbrev cX15_stands : ByteArray := prog_14_method_33_code
def yX15_stands : MethodName := ⟨RX15, "stands", "(LHouseWiresModel$Out;I)V"⟩
abbrev cX15_gather : ByteArray := prog_14_method_34_code
def yX15_gather : MethodName := ⟨RX15, "gather", "(I)V"⟩
abbrev cX15_bitOf : ByteArray := prog_14_method_35_code
def yX15_bitOf : MethodName := ⟨RX15, "bitOf", "(LHouseWiresModel$Out;II)I"⟩
abbrev cX15_winner : ByteArray := prog_14_method_36_code
def yX15_winner : MethodName := ⟨RX15, "winner", "()I"⟩
abbrev cX15_hears : ByteArray := prog_14_method_37_code
def yX15_hears : MethodName := ⟨RX15, "hears", "(LHouseWiresModel$Out;)V"⟩
abbrev cX15_answerOf : ByteArray := prog_14_method_38_code
def yX15_answerOf : MethodName := ⟨RX15, "answerOf", "(IZ)I"⟩
abbrev cX15_answerDevice : ByteArray := prog_14_method_39_code
def yX15_answerDevice : MethodName := ⟨RX15, "answerDevice", "(LHouseWiresModel$Device;)I"⟩
abbrev cX15_answerCoupler : ByteArray := prog_14_method_40_code
def yX15_answerCoupler : MethodName := ⟨RX15, "answerCoupler", "(LHouseWiresModel$Coupler;II)I"⟩
abbrev cX15_passes : ByteArray := prog_14_method_41_code
def yX15_passes : MethodName := ⟨RX15, "passes", "(LHouseWiresModel$Coupler;II)Z"⟩
abbrev cX15_lineOf : ByteArray := prog_14_method_42_code
def yX15_lineOf : MethodName := ⟨RX15, "lineOf", "(I)I"⟩
abbrev cX15_isJoined : ByteArray := prog_14_method_43_code
def yX15_isJoined : MethodName := ⟨RX15, "isJoined", "(III)Z"⟩
abbrev cX15_goesOn : ByteArray := prog_14_method_44_code
def yX15_goesOn : MethodName := ⟨RX15, "goesOn", "(I)V"⟩
abbrev cX15_ends : ByteArray := prog_14_method_45_code
def yX15_ends : MethodName := ⟨RX15, "ends", "(LHouseWiresModel$Out;I)V"⟩
abbrev cX15_line : ByteArray := prog_14_method_46_code
def yX15_line : MethodName := ⟨RX15, "line", "(I)I"⟩
abbrev cX15_device : ByteArray := prog_14_method_47_code
def yX15_device : MethodName := ⟨RX15, "device", "(II)I"⟩
abbrev cX15_coupler : ByteArray := prog_14_method_48_code
def yX15_coupler : MethodName := ⟨RX15, "coupler", "(II)I"⟩
abbrev cX15_mode : ByteArray := prog_14_method_49_code
def yX15_mode : MethodName := ⟨RX15, "mode", "(II)Z"⟩
abbrev cX15_filter : ByteArray := prog_14_method_50_code
def yX15_filter : MethodName := ⟨RX15, "filter", "(IIZ)Z"⟩
abbrev cX15_object : ByteArray := prog_14_method_51_code
def yX15_object : MethodName := ⟨RX15, "object", "(IIII)I"⟩
abbrev cX15_flags : ByteArray := prog_14_method_52_code
def yX15_flags : MethodName := ⟨RX15, "flags", "(III)Z"⟩
abbrev cX15_link : ByteArray := prog_14_method_53_code
def yX15_link : MethodName := ⟨RX15, "link", "(III)Z"⟩
abbrev cX15_sets : ByteArray := prog_14_method_54_code
def yX15_sets : MethodName := ⟨RX15, "sets", "(LHouseWiresModel$Device;II)I"⟩
abbrev cX15_set : ByteArray := prog_14_method_55_code
def yX15_set : MethodName := ⟨RX15, "set", "(III)I"⟩
abbrev cX15_ask : ByteArray := prog_14_method_56_code
def yX15_ask : MethodName := ⟨RX15, "ask", "(II)I"⟩
abbrev cX15_value : ByteArray := prog_14_method_57_code
def yX15_value : MethodName := ⟨RX15, "value", "(II)J"⟩
abbrev cX15_updated : ByteArray := prog_14_method_58_code
def yX15_updated : MethodName := ⟨RX15, "updated", "(II)I"⟩
abbrev cX15_hundredths : ByteArray := prog_14_method_59_code
def yX15_hundredths : MethodName := ⟨RX15, "hundredths", "(II)J"⟩
abbrev cX15_point : ByteArray := prog_14_method_60_code
def yX15_point : MethodName := ⟨RX15, "point", "(III)I"⟩
abbrev cX15_connect : ByteArray := prog_14_method_61_code
def yX15_connect : MethodName := ⟨RX15, "connect", "(II)Z"⟩
abbrev cX15_disconnect : ByteArray := prog_14_method_62_code
def yX15_disconnect : MethodName := ⟨RX15, "disconnect", "(I)Z"⟩
abbrev cX15_mayOrder : ByteArray := prog_14_method_63_code
def yX15_mayOrder : MethodName := ⟨RX15, "mayOrder", "(IIII)Z"⟩
abbrev cX15_peek : ByteArray := prog_14_method_64_code
def yX15_peek : MethodName := ⟨RX15, "peek", "(III)Z"⟩
abbrev cX15_poke : ByteArray := prog_14_method_65_code
def yX15_poke : MethodName := ⟨RX15, "poke", "(IIII)Z"⟩
abbrev cX15_memory : ByteArray := prog_14_method_66_code
def yX15_memory : MethodName := ⟨RX15, "memory", "(II)I"⟩
abbrev cX15_store : ByteArray := prog_14_method_67_code
def yX15_store : MethodName := ⟨RX15, "store", "(III)Z"⟩
abbrev cX15_reply : ByteArray := prog_14_method_68_code
def yX15_reply : MethodName := ⟨RX15, "reply", "(II)I"⟩
abbrev cX15_connection : ByteArray := prog_14_method_69_code
def yX15_connection : MethodName := ⟨RX15, "connection", "(II)I"⟩
abbrev cX15_busy : ByteArray := prog_14_method_70_code
def yX15_busy : MethodName := ⟨RX15, "busy", "(II)Z"⟩
abbrev cX15_feed : ByteArray := prog_14_method_71_code
def yX15_feed : MethodName := ⟨RX15, "feed", "(IIIII)I"⟩
abbrev cX15_end : ByteArray := prog_14_method_72_code
def yX15_end : MethodName := ⟨RX15, "end", "(I)I"⟩
abbrev cX15_raw : ByteArray := prog_14_method_73_code
def yX15_raw : MethodName := ⟨RX15, "raw", "(I)I"⟩
abbrev cX15_harm : ByteArray := prog_14_method_74_code
def yX15_harm : MethodName := ⟨RX15, "harm", "(III)Z"⟩
abbrev cX15_step : ByteArray := prog_14_method_75_code
def yX15_step : MethodName := ⟨RX15, "step", "(I)I"⟩
abbrev cX15_sent : ByteArray := prog_14_method_76_code
def yX15_sent : MethodName := ⟨RX15, "sent", "(I)I"⟩
abbrev cX15_count : ByteArray := prog_14_method_77_code
def yX15_count : MethodName := ⟨RX15, "count", "(I)I"⟩
def RJ9 : String := "java/lang/Math"
def TJ9 : u_T := fun k => match k with
  | _ => ("", "", "", false)
def tyJ9 : Nat → FieldType := fun k => match k with
  | _ => .int
abbrev wsJ90 : List Cond := u_ws RJ9 TJ9 0
theorem nmJ9 : ∀ a, a < 0 → ∀ b, b < 0 → a ≠ b → (TJ9 a).2.1 ≠ (TJ9 b).2.1 := by decide +kernel
theorem tyJ9_ok : ∀ k, k < 0 → parseFieldDescriptor (TJ9 k).2.2.1 = some (tyJ9 k) := by decide +kernel
abbrev cJ9_max_7cf53 : ByteArray := prog_20_method_65_code
def yJ9_max_7cf53 : MethodName := ⟨RJ9, "max", "(II)I"⟩
def RJ0 : String := "java/lang/String"
def TJ0 : u_T := fun k => match k with
  | _ => ("", "", "", false)
def tyJ0 : Nat → FieldType := fun k => match k with
  | _ => .int
abbrev wsJ00 : List Cond := u_ws RJ0 TJ0 0
theorem nmJ0 : ∀ a, a < 0 → ∀ b, b < 0 → a ≠ b → (TJ0 a).2.1 ≠ (TJ0 b).2.1 := by decide +kernel
theorem tyJ0_ok : ∀ k, k < 0 → parseFieldDescriptor (TJ0 k).2.2.1 = some (tyJ0 k) := by decide +kernel
def RJ10 : String := "java/lang/System"
def TJ10 : u_T := fun k => match k with
  | _ => ("", "", "", false)
def tyJ10 : Nat → FieldType := fun k => match k with
  | _ => .int
abbrev wsJ100 : List Cond := u_ws RJ10 TJ10 0
theorem nmJ10 : ∀ a, a < 0 → ∀ b, b < 0 → a ≠ b → (TJ10 a).2.1 ≠ (TJ10 b).2.1 := by decide +kernel
theorem tyJ10_ok : ∀ k, k < 0 → parseFieldDescriptor (TJ10 k).2.2.1 = some (tyJ10 k) := by decide +kernel
def RL : String := "HouseWiresLaw"
abbrev cL_step : ByteArray := method_3_code
def yL_step : MethodName := ⟨RL, "step", "(LHouseWires;I[J)I"⟩
abbrev cL_sent : ByteArray := method_4_code
def yL_sent : MethodName := ⟨RL, "sent", "(LHouseWires;I[J)I"⟩
abbrev cL_law : ByteArray := code
def yL_law : MethodName := ⟨RL, "law", "([I)Z"⟩
abbrev vwCl : List vw_C := [(RX0, TX0, 15), (RX1, TX1, 11), (RX2, TX2, 3), (RX3, TX3, 5), (RX4, TX4, 4), (RX5, TX5, 6), (RX6, TX6, 5), (RX7, TX7, 3), (RX9, TX9, 7), (RX10, TX10, 5), (RX11, TX11, 15), (RX12, TX12, 7), (RX13, TX13, 28), (RX14, TX14, 6), (RX15, TX15, 40)]
end
section
/-! ===== our own layer over the kit: the memory of one side as functions of the address ===== -/
/-- kind of the cell at an address (0: none; 1 + i: an object of class i; 100 + t: an array of type t), its length, its ints, its references -/
abbrev zM : Type := (Nat → Nat) × (Nat → Nat) × (Nat → Nat → Int32) × (Nat → Nat → Option Nat)
/-- an object's fields by its layout: true where a field is a reference -/
def zF : List Bool → Nat → (Nat → Int32) → (Nat → Option Nat) → List Value
  | [], _, _, _ => []
  | b :: l, k, i, r => (if b then va_rf (r k) else Value.int (i k)) :: zF l (k + 1) i r
theorem zF_get : ∀ (l : List Bool) (k j : Nat) (i : Nat → Int32) (r : Nat → Option Nat) (b : Bool), l[j]? = some b → (zF l k i r)[j]? = some (if b then va_rf (r (k + j)) else Value.int (i (k + j)))
  | [], _, _, _, _, _, h => by simp at h
  | c :: l, k, 0, i, r, b, h => by
    simp at h
    subst h
    simp [zF]
  | c :: l, k, j + 1, i, r, b, h => by
    rw [List.getElem?_cons_succ] at h
    have h1 := zF_get l (k + 1) j i r b h
    rw [zF, List.getElem?_cons_succ, h1]
    rw [show k + 1 + j = k + (j + 1) by omega]
theorem zF_len : ∀ (l : List Bool) (k : Nat) (i : Nat → Int32) (r : Nat → Option Nat), (zF l k i r).length = l.length
  | [], _, _, _ => rfl
  | c :: l, k, i, r => by
    rw [zF, List.length_cons, List.length_cons, zF_len l]
/-- one int field is set -/
theorem zF_seti (l : List Bool) (k j : Nat) (i : Nat → Int32) (r : Nat → Option Nat) (v : Int32) (h : l[j]? = some false) : (zF l k i r).set j (.int v) = zF l k (fun x => if x = k + j then v else i x) r := by
  apply List.ext_getElem?
  intro n
  by_cases hn : n = j
  · subst hn
    have hl : n < (zF l k i r).length := by rw [zF_len]; exact (List.getElem?_eq_some_iff.mp h).1
    rw [List.getElem?_set_self hl, zF_get l k n _ _ false h]
    simp
  · rw [List.getElem?_set_ne (Ne.symm hn)]
    cases hb : l[n]? with
    | none =>
      have h1 : l.length ≤ n := by simpa using hb
      rw [List.getElem?_eq_none (by rw [zF_len]; exact h1), List.getElem?_eq_none (by rw [zF_len]; exact h1)]
    | some b =>
      rw [zF_get l k n _ _ b hb, zF_get l k n _ _ b hb]
      rw [if_neg (show ¬ k + n = k + j by omega)]
theorem zF_setr (l : List Bool) (k j : Nat) (i : Nat → Int32) (r : Nat → Option Nat) (v : Option Nat) (h : l[j]? = some true) : (zF l k i r).set j (va_rf v) = zF l k i (fun x => if x = k + j then v else r x) := by
  apply List.ext_getElem?
  intro n
  by_cases hn : n = j
  · subst hn
    have hl : n < (zF l k i r).length := by rw [zF_len]; exact (List.getElem?_eq_some_iff.mp h).1
    rw [List.getElem?_set_self hl, zF_get l k n _ _ true h]
    simp
  · rw [List.getElem?_set_ne (Ne.symm hn)]
    cases hb : l[n]? with
    | none =>
      have h1 : l.length ≤ n := by simpa using hb
      rw [List.getElem?_eq_none (by rw [zF_len]; exact h1), List.getElem?_eq_none (by rw [zF_len]; exact h1)]
    | some b =>
      rw [zF_get l k n _ _ b hb, zF_get l k n _ _ b hb]
      rw [if_neg (show ¬ k + n = k + j by omega)]
/-- which fields of a class are references -/
def zlay : Nat → List Bool
  | 0 => [false, true, true, true, true, true, false, false, false, false, false, false, false, false, false]
  | 1 => [true, true, false, true, true, true, true, true, false, false, false]
  | 2 => [true, false, false]
  | 3 => [false, false, false, false, false]
  | 4 => [true, true, true, false]
  | 5 => [false, true, true, false, false, false]
  | 6 => [true, true, true, true, false]
  | 7 => [true, true, false]
  | 8 => [false, false, false, false, false, false, false]
  | 9 => [true, false, false, false, false]
  | 10 => [true, true, true, true, true, true, true, true, true, false, false, false, false, false, false]
  | 11 => [true, false, true, false, true, true, true]
  | 12 => [false, false, true, false, true, false, false, true, true, true, true, true, false, true, true, true, true, false, false, false, false, false, false, false, false, false, true, false]
  | 13 => [true, true, true, true, true, false]
  | 14 => [false, false, false, false, false, true, true, false, true, false, true, true, true, true, true, false, false, false, false, false, false, true, false, true, true, true, false, true, true, true, false, true, false, true, true, true, true, true, true, false]
  | _ => []
/-- the component types of our arrays -/
def ztys (cA : Nat → ClassId) : List (ClassId × FieldType) := [(cA 0, .int), (cA 1, .boolean), (cA 2, .object "HouseWires$Line"), (cA 3, .object "HouseWires$Device"), (cA 4, .object "HouseWires$Filter"), (cA 5, .object "HouseWires$Port"), (cA 6, .object "HouseWires$Telegram"), (cA 7, .object "HouseWires$Station"), (cA 8, .object "HouseWires$GroupObject"), (cA 9, .object "HouseWiresModel$Out"), (cA 10, .object "HouseWiresModel$Device"), (cA 11, .object "HouseWiresModel$Coupler"), (cA 12, .array .int)]
def zAO : List String := ["HouseWires$Line", "HouseWires$Device", "HouseWires$Filter", "HouseWires$Port", "HouseWires$Telegram", "HouseWires$Station", "HouseWires$GroupObject", "HouseWiresModel$Out", "HouseWiresModel$Device", "HouseWiresModel$Coupler"]
def zNW : List Cond := [.methodLinkNest "HouseWires" 9 ⟨"HouseWires$Tally", "<init>", "()V"⟩ "HouseWires", .methodLinkNest "HouseWires" 42 ⟨"HouseWires$Harms", "<init>", "()V"⟩ "HouseWires", .methodLinkNest "HouseWires" 53 ⟨"HouseWires$Telegram", "<init>", "()V"⟩ "HouseWires", .methodLinkNest "HouseWires$Row" 21 ⟨"HouseWires$Telegram", "<init>", "()V"⟩ "HouseWires", .methodLinkNest "HouseWires$Connection" 28 ⟨"HouseWires$Telegram", "<init>", "()V"⟩ "HouseWires", .methodLinkNest "HouseWires$Station" 15 ⟨"HouseWires$Telegram", "<init>", "()V"⟩ "HouseWires", .methodLinkNest "HouseWires" 119 ⟨"HouseWires$Filter", "<init>", "()V"⟩ "HouseWires", .methodLinkNest "HouseWires$Device" 39 ⟨"HouseWires", "isWithin", "(III)Z"⟩ "HouseWires", .methodLinkNest "HouseWires$Telegram" 36 ⟨"HouseWires", "isWithin", "(III)Z"⟩ "HouseWires", .methodLinkNest "HouseWiresModel" 90 ⟨"HouseWiresModel$Device", "<init>", "()V"⟩ "HouseWiresModel", .methodLinkNest "HouseWiresModel$Device" 11 ⟨"HouseWiresModel$Out", "<init>", "()V"⟩ "HouseWiresModel", .methodLinkNest "HouseWiresModel" 91 ⟨"HouseWiresModel$Coupler", "<init>", "()V"⟩ "HouseWiresModel", .methodLinkNest "HouseWiresModel$Coupler" 20 ⟨"HouseWiresModel$Out", "<init>", "()V"⟩ "HouseWiresModel", .methodLinkNest "HouseWiresModel" 92 ⟨"HouseWiresModel$Out", "<init>", "()V"⟩ "HouseWiresModel"]
theorem zNW_form : ∀ w ∈ zNW, ∃ (a : String) (i : Nat) (x : MethodName) (h : String), w = .methodLinkNest a i x h := by
  intro w hw
  simp only [zNW, List.mem_cons, List.not_mem_nil, or_false] at hw
  rcases hw with rfl | rfl | rfl | rfl | rfl | rfl | rfl | rfl | rfl | rfl | rfl | rfl | rfl | rfl <;> exact ⟨_, _, _, _, rfl⟩
/-- what the cell of kind k with length n, ints i, references r is for the kit -/
def zE (cA : Nat → ClassId) (k n : Nat) (i : Nat → Int32) (r : Nat → Option Nat) : va_E :=
  if k < 100 then .inr (k - 1, zF (zlay (k - 1)) 0 i r) else if k < 102 then .inl (cA (k - 100), n, .inl i) else .inl (cA (k - 100), n, .inr (.inr (.inr (.inr r))))
abbrev zE' (cA : Nat → ClassId) (M : zM) (a : Nat) : va_E := zE cA (M.1 a) (M.2.1 a) (M.2.2.1 a) (M.2.2.2 a)
/-- a list world holds just the memory's cells -/
def zRep (cA : Nat → ClassId) (M : zM) (ws : va_W) : Prop := (∀ a, M.1 a ≠ 0 → ∃ j : Nat, ws[j]? = some (a, zE' cA M a)) ∧ ∀ (j : Nat) (q : Nat × va_E), ws[j]? = some q → M.1 q.1 ≠ 0 ∧ q.2 = zE' cA M q.1
/-- an int is written, a reference is written, a new cell -/
def zi (M : zM) (a k : Nat) (v : Int32) : zM := (M.1, M.2.1, fun x j => if x = a ∧ j = k then v else M.2.2.1 x j, M.2.2.2)
def zr (M : zM) (a k : Nat) (v : Option Nat) : zM := (M.1, M.2.1, M.2.2.1, fun x j => if x = a ∧ j = k then v else M.2.2.2 x j)
def zn (M : zM) (a k n : Nat) : zM := (fun x => if x = a then k else M.1 x, fun x => if x = a then n else M.2.1 x, fun x j => if x = a then 0 else M.2.2.1 x j, fun x j => if x = a then none else M.2.2.2 x j)
theorem zRep.set {cA : Nat → ClassId} {M M' : zM} {ws : va_W} {A : Nat → Prop} {a q0 : Nat} {e0 e : va_E} (h : zRep cA M ws) (hD : va_D A ws) (hq : ws[q0]? = some (a, e0)) (ho : ∀ x, x ≠ a → M'.1 x = M.1 x ∧ zE' cA M' x = zE' cA M x) (hk : M'.1 a ≠ 0) (he : e = zE' cA M' a) : zRep cA M' (ws.set q0 (a, e)) := by
  have hl := (List.getElem?_eq_some_iff.mp hq).1
  refine ⟨fun x hx => ?_, fun j q hj => ?_⟩
  · by_cases hxa : x = a
    · subst hxa
      exact ⟨q0, by rw [List.getElem?_set_self hl, he]⟩
    · obtain ⟨h1, h2⟩ := ho x hxa
      obtain ⟨j, hj⟩ := h.1 x (by rw [← h1]; exact hx)
      refine ⟨j, ?_⟩
      rw [List.getElem?_set_ne, hj, h2]
      intro hjq
      subst hjq
      rw [hq] at hj
      cases hj
      exact hxa rfl
  · by_cases hjq : j = q0
    · subst hjq
      rw [List.getElem?_set_self hl] at hj
      cases hj
      exact ⟨hk, he⟩
    · rw [List.getElem?_set_ne (Ne.symm hjq)] at hj
      have hqa : q.1 ≠ a := fun z => hjq (hD.1 j q0 q (a, e0) hj hq z)
      obtain ⟨h1, h2⟩ := ho q.1 hqa
      obtain ⟨h3, h4⟩ := h.2 j q hj
      exact ⟨by rw [h1]; exact h3, by rw [h2]; exact h4⟩
theorem zRep.fresh {cA : Nat → ClassId} {M : zM} {ws : va_W} {A : Nat → Prop} {a : Nat} {e : va_E} (h : zRep cA M ws) (hD : va_D A (ws ++ [(a, e)])) : M.1 a = 0 := by
  rcases Nat.eq_zero_or_pos (M.1 a) with h0 | h0
  · exact h0
  · obtain ⟨j, hj⟩ := h.1 a (by omega)
    have hl := (List.getElem?_eq_some_iff.mp hj).1
    have h1 : (ws ++ [(a, e)])[j]? = some (a, zE' cA M a) := by rw [List.getElem?_append_left hl]; exact hj
    have h2 : (ws ++ [(a, e)])[ws.length]? = some (a, e) := by rw [List.getElem?_append_right (Nat.le_refl _)]; simp
    have h3 := hD.1 j ws.length _ _ h1 h2 rfl
    omega
theorem zRep.push {cA : Nat → ClassId} {M M' : zM} {ws : va_W} {a : Nat} {e : va_E} (h : zRep cA M ws) (hf : M.1 a = 0) (ho : ∀ x, x ≠ a → M'.1 x = M.1 x ∧ zE' cA M' x = zE' cA M x) (hk : M'.1 a ≠ 0) (he : e = zE' cA M' a) : zRep cA M' (ws ++ [(a, e)]) := by
  refine ⟨fun x hx => ?_, fun j q hj => ?_⟩
  · by_cases hxa : x = a
    · subst hxa
      exact ⟨ws.length, by rw [List.getElem?_append_right (Nat.le_refl _), he]; simp⟩
    · obtain ⟨h1, h2⟩ := ho x hxa
      obtain ⟨j, hj⟩ := h.1 x (by rw [← h1]; exact hx)
      exact ⟨j, by rw [List.getElem?_append_left (List.getElem?_eq_some_iff.mp hj).1, hj, h2]⟩
  · by_cases hl : j < ws.length
    · rw [List.getElem?_append_left hl] at hj
      obtain ⟨h3, h4⟩ := h.2 j q hj
      have hqa : q.1 ≠ a := fun z => by rw [z] at h3; exact h3 hf
      obtain ⟨h1, h2⟩ := ho q.1 hqa
      exact ⟨by rw [h1]; exact h3, by rw [h2]; exact h4⟩
    · rw [List.getElem?_append_right (by omega)] at hj
      have hz : j - ws.length < 1 := (List.getElem?_eq_some_iff.mp hj).1
      rw [show j - ws.length = 0 by omega] at hj
      cases hj
      exact ⟨hk, he⟩
theorem zi_ne {cA : Nat → ClassId} (M : zM) (a k : Nat) (v : Int32) : ∀ x, x ≠ a → (zi M a k v).1 x = M.1 x ∧ zE' cA (zi M a k v) x = zE' cA M x := fun x hx => ⟨rfl, by simp [zi, zE', hx]⟩
theorem zr_ne {cA : Nat → ClassId} (M : zM) (a k : Nat) (v : Option Nat) : ∀ x, x ≠ a → (zr M a k v).1 x = M.1 x ∧ zE' cA (zr M a k v) x = zE' cA M x := fun x hx => ⟨rfl, by simp [zr, zE', hx]⟩
theorem zn_ne {cA : Nat → ClassId} (M : zM) (a k n : Nat) : ∀ x, x ≠ a → (zn M a k n).1 x = M.1 x ∧ zE' cA (zn M a k n) x = zE' cA M x := fun x hx => ⟨by simp [zn, hx], by simp [zn, zE', hx]⟩
/-- the words that every contract of ours has: those of the tables that stay -/
def zT : List Cond := lw_tbl.filter goodWord
theorem zT_tab {w : Cond} (j : Nat) (h : tables_1[j]? = some w) (g : goodWord w = true) : w ∈ zT := List.mem_filter.mpr ⟨List.mem_append_right _ (List.mem_of_getElem? h), g⟩
theorem zT_prv {w : Cond} (j : Nat) (h : (k2_sels lw_privs)[j]? = some w) (g : goodWord w = true) : w ∈ zT := List.mem_filter.mpr ⟨List.mem_append_left _ (List.mem_of_getElem? h), g⟩
theorem zT_good {y : MethodName} {b : ByteArray} {n : Nat} {r : Option FieldType} {big : List Cond} (hb : ∀ w ∈ zT, w ∈ big) (h : Cond.code y b n r ∈ zT) : GoodIn big (.code y b n r :: zT) := by
  intro w hw
  rcases List.mem_cons.mp hw with e | hw
  · subst e
    exact ⟨hb _ h, good_of_word (List.mem_filter.mp h).2⟩
  · exact ⟨hb _ hw, good_of_word (List.mem_filter.mp hw).2⟩
/-- launch, classes and slots, array classes -/
abbrev zG : Type := Launch × va_G × (Nat → ClassId)
/-- int[][] is an array of int[] -/
def zO2 (G : zG) (U : State) : Prop := ∃ kA : Class, U.vm.classes[G.2.2 12]? = some kA ∧ kA.kind = .array (G.2.2 0) (.array .int)
theorem zO2.moved {G : zG} {u U : State} (hvm : u.vm.Alike U.vm) (h : zO2 G u) : zO2 G U := by
  obtain ⟨kA, h1, h2⟩ := h
  obtain ⟨k', hk', he⟩ := hvm.2.2 _ _ h1
  exact ⟨k', hk', by rw [he]; exact h2⟩
/-- what the tables say at a state, and keeps -/
def zV (G : zG) (U : State) : Prop := va_K G.2.1 vwCl (ztys G.2.2) U ∧ (∀ C ∈ zAO, va_AO C U) ∧ (∀ w ∈ zNW, va_Nw w U) ∧ zO2 G U
/-- which cells a method may write -/
def zA (M : zM) (sz : Nat) : Nat → Prop := fun q => M.1 q ≠ 0 ∨ sz ≤ q
def zQ (G : zG) (A : Nat → Prop) (post : zM → Option Value → Prop) : Array Value → State → Outcome → State → Prop := fun _ st oc t => (∃ (M : zM) (v : Option Value) (ws : va_W), oc = .returned v ∧ post M v ∧ zRep G.2.2 M ws ∧ va_P G.2.1 vwCl ws t.heap ∧ zV G t ∧ va_D A ws) ∧ va_F A st t
/-- where a method begins: memory M -/
def zP (G : zG) (M : zM) (sz : Nat) (U : State) : Prop := U.heap.size = sz ∧ zV G U ∧ ∃ ws : va_W, zRep G.2.2 M ws ∧ va_P G.2.1 vwCl ws U.heap ∧ va_D (fun _ => True) ws
/-- a method's contract at memory M and arguments av: it returns, and post holds -/
def zC (G : zG) (y : MethodName) (cc : ByteArray) (maxL : Nat) (ret : Option FieldType) (rm : Room) (M : zM) (av : List Value) (post : zM → Option Value → Prop) : Prop :=
  ∀ sz : Nat, Met G.1 y (.code y cc maxL ret :: zT) rm (va_Pc av (zP G M sz)) (zQ G (zA M sz) post) rm.cells rm.slots (zA M sz)
/-- an activation: machine, start, frame, cells it may write, what is owed at its end -/
abbrev zX : Type := Program × Env × Room × State × MethodId × Array Value × List Frame × Method × Code × (Nat → Prop) × (zM → Option Value → Prop)
abbrev zX.p (X : zX) : Program := X.1
abbrev zX.e (X : zX) : Env := X.2.1
abbrev zX.R (X : zX) : Room := X.2.2.1
abbrev zX.s (X : zX) : State := X.2.2.2.1
abbrev zX.m (X : zX) : MethodId := X.2.2.2.2.1
abbrev zX.a (X : zX) : Array Value := X.2.2.2.2.2.1
abbrev zX.b (X : zX) : List Frame := X.2.2.2.2.2.2.1
abbrev zX.h (X : zX) : Method := X.2.2.2.2.2.2.2.1
abbrev zX.c (X : zX) : Code := X.2.2.2.2.2.2.2.2.1
abbrev zX.A (X : zX) : Nat → Prop := X.2.2.2.2.2.2.2.2.2.1
abbrev zX.q (X : zX) : zM → Option Value → Prop := X.2.2.2.2.2.2.2.2.2.2
/-- what holds of an activation all the while -/
def zOK (G : zG) (X : zX) (cc : ByteArray) (nL : Nat) (own : String) (ret : Option FieldType) (nm : String) : Prop :=
  X.p.tables.exec = Jvm.exec ∧ X.c.code = cc ∧ X.h.sig.returnType = ret ∧ X.c.maxLocals = nL ∧ X.s.vm.findClass own = some X.m.cls ∧ (∀ w ∈ zT, w.before X.a X.s = true) ∧ zV G X.s ∧ X.h.locks = false ∧ X.h.name = nm ∧ ∀ q : Nat, X.s.heap.size ≤ q → X.A q
/-- the walk from pc with memory M, n cells and k slots made, locals lv, stack st -/
def zW (G : zG) (X : zX) (nL : Nat) (M : zM) (n k pc : Nat) (lv : List (Nat × Value)) (st : List Value) : Prop :=
  ∀ (H : Heap) (locs : List Loc) (ws : va_W) (ls : Array Slot), zRep G.2.2 M ws → va_P G.2.1 vwCl ws H → va_D X.A ws → va_S X.A X.s.heap H locs → lv_has ls nL lv → n ≤ X.R.cells → k ≤ X.R.slots →
    W X.p G.1 X.e X.R X.s X.m X.a X.b X.h X.c H locs n k (MQ X.b (zQ G X.A X.q) X.a X.s X.R.cells X.R.slots X.A) (F0 X.m pc ls st)
theorem zV.moved {G : zG} {u U : State} (hW : u.WarmedH U.vm) (h : zV G u) : zV G U := by
  obtain ⟨h1, h2, h3, h4⟩ := h
  refine ⟨va_K.moved hW.alike h1, fun C hC => va_AO.moved hW.alike (h2 C hC), fun w hw => ?_, ?_⟩
  · obtain ⟨a, i, x, h, rfl⟩ := zNW_form w hw
    exact va_Nw.warmM hW (h3 _ hw)
  · exact zO2.moved hW.alike h4
theorem zV.same {G : zG} {u U : State} (hv : u.vm = U.vm) (h : zV G u) : zV G U := by
  obtain ⟨h1, h2, h3, h4⟩ := h
  have hal : u.vm.Alike U.vm := by rw [hv]; exact Vm.Alike.refl _
  refine ⟨va_K.moved hal h1, fun C hC => va_AO.moved hal (h2 C hC), fun w hw => ?_, ?_⟩
  · obtain ⟨a, i, x, h, rfl⟩ := zNW_form w hw
    exact va_Nw.same rfl hv (h3 _ hw)
  · exact zO2.moved hal h4
theorem zP_blind {G : zG} {M : zM} {sz : Nat} {av : List Value} : FrameBlind (va_Pc av (zP G M sz)) := fun a U g mk h => ⟨h.1, h.2.1, zV.same (u := U) (U := U.calling g mk a) rfl h.2.2.1, h.2.2.2⟩
end
section
section ZROW
variable {G : zG} {X : zX} {cc : ByteArray} {nL : Nat} {own : String} {ret : Option FieldType} {nm : String} {M : zM} {n k pc : Nat} {lv : List (Nat × Value)} {st : List Value}
theorem z_iconst (O : zOK G X cc nL own ret nm) {i : Int} {v : Int32} (hd : decode cc pc = .ok (.iconst i, 1)) (hv : Int32.ofInt i = v) (K : zW G X nL M n k (pc + 1) lv (.int v :: st)) : zW G X nL M n k pc lv st := fun H locs ws ls h1 h2 h3 h4 h5 h6 h7 => lv_iconst O.1 O.2.1 hd hv (K H locs ws ls h1 h2 h3 h4 h5 h6 h7)
theorem z_bipush (O : zOK G X cc nL own ret nm) {i : Int} {v : Int32} (hd : decode cc pc = .ok (.bipush i, 2)) (hv : (Int8.ofInt i).toInt32 = v) (K : zW G X nL M n k (pc + 2) lv (.int v :: st)) : zW G X nL M n k pc lv st := fun H locs ws ls h1 h2 h3 h4 h5 h6 h7 => lv_bipush O.1 O.2.1 hd hv (K H locs ws ls h1 h2 h3 h4 h5 h6 h7)
theorem z_sipush (O : zOK G X cc nL own ret nm) {i : Int} {v : Int32} (hd : decode cc pc = .ok (.sipush i, 3)) (hv : (Int16.ofInt i).toInt32 = v) (K : zW G X nL M n k (pc + 3) lv (.int v :: st)) : zW G X nL M n k pc lv st := fun H locs ws ls h1 h2 h3 h4 h5 h6 h7 => lv_sipush O.1 O.2.1 hd hv (K H locs ws ls h1 h2 h3 h4 h5 h6 h7)
theorem z_lconst (O : zOK G X cc nL own ret nm) {i : Fin 2} {v : Int64} (hd : decode cc pc = .ok (.lconst i, 1)) (hv : Int64.ofNat (i : Nat) = v) (K : zW G X nL M n k (pc + 1) lv (.long v :: st)) : zW G X nL M n k pc lv st := fun H locs ws ls h1 h2 h3 h4 h5 h6 h7 => lv_lconst O.1 O.2.1 hd hv (K H locs ws ls h1 h2 h3 h4 h5 h6 h7)
theorem z_null (O : zOK G X cc nL own ret nm) (hd : decode cc pc = .ok (.aconst_null, 1)) (K : zW G X nL M n k (pc + 1) lv (.null :: st)) : zW G X nL M n k pc lv st := fun H locs ws ls h1 h2 h3 h4 h5 h6 h7 => lv_null O.1 O.2.1 hd (K H locs ws ls h1 h2 h3 h4 h5 h6 h7)
theorem z_ldc (O : zOK G X cc nL own ret nm) {i : Nat} {v : Int32} (hd : decode cc pc = .ok (.ldc i, 2)) (hw : Cond.constant own i v ∈ zT) (K : zW G X nL M n k (pc + 2) lv (.int v :: st)) : zW G X nL M n k pc lv st := fun H locs ws ls h1 h2 h3 h4 h5 h6 h7 => lv_ldc O.1 O.2.1 O.2.2.2.2.1 (O.2.2.2.2.2.1 _ hw) hd (K H locs ws ls h1 h2 h3 h4 h5 h6 h7)
theorem z_ldc_w (O : zOK G X cc nL own ret nm) {i : Nat} {v : Int32} (hd : decode cc pc = .ok (.ldc_w i, 3)) (hw : Cond.constant own i v ∈ zT) (K : zW G X nL M n k (pc + 3) lv (.int v :: st)) : zW G X nL M n k pc lv st := fun H locs ws ls h1 h2 h3 h4 h5 h6 h7 => lv_ldcw O.1 O.2.1 O.2.2.2.2.1 (O.2.2.2.2.2.1 _ hw) hd (K H locs ws ls h1 h2 h3 h4 h5 h6 h7)
theorem z_ldc2_w (O : zOK G X cc nL own ret nm) {i : Nat} {v : Int64} (hd : decode cc pc = .ok (.ldc2_w i, 3)) (hw : Cond.constantLong own i v ∈ zT) (K : zW G X nL M n k (pc + 3) lv (.long v :: st)) : zW G X nL M n k pc lv st := fun H locs ws ls h1 h2 h3 h4 h5 h6 h7 => lv_ldc2 O.1 O.2.1 O.2.2.2.2.1 (O.2.2.2.2.2.1 _ hw) hd (K H locs ws ls h1 h2 h3 h4 h5 h6 h7)
theorem z_iload_n (O : zOK G X cc nL own ret nm) {j : Fin 4} {i : Nat} {x : Int32} (hd : decode cc pc = .ok (.iload_n j, 1)) (hi : (j : Nat) = i) (q : Nat) (hl : lv[q]? = some (i, .int x)) (K : zW G X nL M n k (pc + 1) lv (.int x :: st)) : zW G X nL M n k pc lv st := fun H locs ws ls h1 h2 h3 h4 h5 h6 h7 => lv_iload_n O.1 O.2.1 hd hi (lv_at h5 q hl) (K H locs ws ls h1 h2 h3 h4 h5 h6 h7)
theorem z_iload (O : zOK G X cc nL own ret nm) {i : Nat} {x : Int32} (hd : decode cc pc = .ok (.iload i, 2)) (q : Nat) (hl : lv[q]? = some (i, .int x)) (K : zW G X nL M n k (pc + 2) lv (.int x :: st)) : zW G X nL M n k pc lv st := fun H locs ws ls h1 h2 h3 h4 h5 h6 h7 => lv_iload O.1 O.2.1 hd (lv_at h5 q hl) (K H locs ws ls h1 h2 h3 h4 h5 h6 h7)
theorem z_lload_n (O : zOK G X cc nL own ret nm) {j : Fin 4} {i : Nat} {x : Int64} (hd : decode cc pc = .ok (.lload_n j, 1)) (hi : (j : Nat) = i) (q : Nat) (hl : lv[q]? = some (i, .long x)) (K : zW G X nL M n k (pc + 1) lv (.long x :: st)) : zW G X nL M n k pc lv st := fun H locs ws ls h1 h2 h3 h4 h5 h6 h7 => lv_lload_n O.1 O.2.1 hd hi (lv_at h5 q hl) (K H locs ws ls h1 h2 h3 h4 h5 h6 h7)
theorem z_lload (O : zOK G X cc nL own ret nm) {i : Nat} {x : Int64} (hd : decode cc pc = .ok (.lload i, 2)) (q : Nat) (hl : lv[q]? = some (i, .long x)) (K : zW G X nL M n k (pc + 2) lv (.long x :: st)) : zW G X nL M n k pc lv st := fun H locs ws ls h1 h2 h3 h4 h5 h6 h7 => lv_lload O.1 O.2.1 hd (lv_at h5 q hl) (K H locs ws ls h1 h2 h3 h4 h5 h6 h7)
theorem z_aload_n (O : zOK G X cc nL own ret nm) {j : Fin 4} {i : Nat} {x : Nat} (hd : decode cc pc = .ok (.aload_n j, 1)) (hi : (j : Nat) = i) (q : Nat) (hl : lv[q]? = some (i, .ref x)) (K : zW G X nL M n k (pc + 1) lv (.ref x :: st)) : zW G X nL M n k pc lv st := fun H locs ws ls h1 h2 h3 h4 h5 h6 h7 => lv_aload_n O.1 O.2.1 hd hi (lv_at h5 q hl) (K H locs ws ls h1 h2 h3 h4 h5 h6 h7)
theorem z_aload (O : zOK G X cc nL own ret nm) {i : Nat} {x : Nat} (hd : decode cc pc = .ok (.aload i, 2)) (q : Nat) (hl : lv[q]? = some (i, .ref x)) (K : zW G X nL M n k (pc + 2) lv (.ref x :: st)) : zW G X nL M n k pc lv st := fun H locs ws ls h1 h2 h3 h4 h5 h6 h7 => lv_aload O.1 O.2.1 hd (lv_at h5 q hl) (K H locs ws ls h1 h2 h3 h4 h5 h6 h7)
theorem z_aload_nN (O : zOK G X cc nL own ret nm) {j : Fin 4} {i : Nat} (hd : decode cc pc = .ok (.aload_n j, 1)) (hi : (j : Nat) = i) (q : Nat) (hl : lv[q]? = some (i, .null)) (K : zW G X nL M n k (pc + 1) lv (.null :: st)) : zW G X nL M n k pc lv st := fun H locs ws ls h1 h2 h3 h4 h5 h6 h7 => lv_aload_nN O.1 O.2.1 hd hi (lv_at h5 q hl) (K H locs ws ls h1 h2 h3 h4 h5 h6 h7)
theorem z_aloadN (O : zOK G X cc nL own ret nm) {i : Nat} (hd : decode cc pc = .ok (.aload i, 2)) (q : Nat) (hl : lv[q]? = some (i, .null)) (K : zW G X nL M n k (pc + 2) lv (.null :: st)) : zW G X nL M n k pc lv st := fun H locs ws ls h1 h2 h3 h4 h5 h6 h7 => lv_aloadN O.1 O.2.1 hd (lv_at h5 q hl) (K H locs ws ls h1 h2 h3 h4 h5 h6 h7)
theorem z_istore_n (O : zOK G X cc nL own ret nm) {j : Fin 4} {i : Nat} {x : Int32} {lv' : List (Nat × Value)} (hd : decode cc pc = .ok (.istore_n j, 1)) (hi : (j : Nat) = i) (hn : i < nL) (hl : (i, Value.int x) :: lv.filter (fun q => !(q.1 == i) && !(q.1 + 1 == i && q.2.category == 2)) = lv') (K : zW G X nL M n k (pc + 1) lv' st) : zW G X nL M n k pc lv (.int x :: st) := fun H locs ws ls h1 h2 h3 h4 h5 h6 h7 => lv_istore_n O.1 O.2.1 hd hi h5 hn hl (fun ls h5 => K H locs ws ls h1 h2 h3 h4 h5 h6 h7)
theorem z_istore (O : zOK G X cc nL own ret nm) {i : Nat} {x : Int32} {lv' : List (Nat × Value)} (hd : decode cc pc = .ok (.istore i, 2)) (hn : i < nL) (hl : (i, Value.int x) :: lv.filter (fun q => !(q.1 == i) && !(q.1 + 1 == i && q.2.category == 2)) = lv') (K : zW G X nL M n k (pc + 2) lv' st) : zW G X nL M n k pc lv (.int x :: st) := fun H locs ws ls h1 h2 h3 h4 h5 h6 h7 => lv_istore O.1 O.2.1 hd h5 hn hl (fun ls h5 => K H locs ws ls h1 h2 h3 h4 h5 h6 h7)
theorem z_lstore_n (O : zOK G X cc nL own ret nm) {j : Fin 4} {i : Nat} {x : Int64} {lv' : List (Nat × Value)} (hd : decode cc pc = .ok (.lstore_n j, 1)) (hi : (j : Nat) = i) (hn : i + 1 < nL) (hl : (i, Value.long x) :: lv.filter (fun q => !(q.1 == i) && (!(q.1 == i + 1) && !(q.1 + 1 == i && q.2.category == 2))) = lv') (K : zW G X nL M n k (pc + 1) lv' st) : zW G X nL M n k pc lv (.long x :: st) := fun H locs ws ls h1 h2 h3 h4 h5 h6 h7 => lv_lstore_n O.1 O.2.1 hd hi h5 hn hl (fun ls h5 => K H locs ws ls h1 h2 h3 h4 h5 h6 h7)
theorem z_lstore (O : zOK G X cc nL own ret nm) {i : Nat} {x : Int64} {lv' : List (Nat × Value)} (hd : decode cc pc = .ok (.lstore i, 2)) (hn : i + 1 < nL) (hl : (i, Value.long x) :: lv.filter (fun q => !(q.1 == i) && (!(q.1 == i + 1) && !(q.1 + 1 == i && q.2.category == 2))) = lv') (K : zW G X nL M n k (pc + 2) lv' st) : zW G X nL M n k pc lv (.long x :: st) := fun H locs ws ls h1 h2 h3 h4 h5 h6 h7 => lv_lstore O.1 O.2.1 hd h5 hn hl (fun ls h5 => K H locs ws ls h1 h2 h3 h4 h5 h6 h7)
theorem z_astore_n (O : zOK G X cc nL own ret nm) {j : Fin 4} {i : Nat} {x : Nat} {lv' : List (Nat × Value)} (hd : decode cc pc = .ok (.astore_n j, 1)) (hi : (j : Nat) = i) (hn : i < nL) (hl : (i, Value.ref x) :: lv.filter (fun q => !(q.1 == i) && !(q.1 + 1 == i && q.2.category == 2)) = lv') (K : zW G X nL M n k (pc + 1) lv' st) : zW G X nL M n k pc lv (.ref x :: st) := fun H locs ws ls h1 h2 h3 h4 h5 h6 h7 => lv_astore_n O.1 O.2.1 hd hi h5 hn hl (fun ls h5 => K H locs ws ls h1 h2 h3 h4 h5 h6 h7)
theorem z_astore (O : zOK G X cc nL own ret nm) {i : Nat} {x : Nat} {lv' : List (Nat × Value)} (hd : decode cc pc = .ok (.astore i, 2)) (hn : i < nL) (hl : (i, Value.ref x) :: lv.filter (fun q => !(q.1 == i) && !(q.1 + 1 == i && q.2.category == 2)) = lv') (K : zW G X nL M n k (pc + 2) lv' st) : zW G X nL M n k pc lv (.ref x :: st) := fun H locs ws ls h1 h2 h3 h4 h5 h6 h7 => lv_astore O.1 O.2.1 hd h5 hn hl (fun ls h5 => K H locs ws ls h1 h2 h3 h4 h5 h6 h7)
theorem z_astore_nN (O : zOK G X cc nL own ret nm) {j : Fin 4} {i : Nat} {lv' : List (Nat × Value)} (hd : decode cc pc = .ok (.astore_n j, 1)) (hi : (j : Nat) = i) (hn : i < nL) (hl : (i, Value.null) :: lv.filter (fun q => !(q.1 == i) && !(q.1 + 1 == i && q.2.category == 2)) = lv') (K : zW G X nL M n k (pc + 1) lv' st) : zW G X nL M n k pc lv (.null :: st) := fun H locs ws ls h1 h2 h3 h4 h5 h6 h7 => lv_astore_nN O.1 O.2.1 hd hi h5 hn hl (fun ls h5 => K H locs ws ls h1 h2 h3 h4 h5 h6 h7)
theorem z_astoreN (O : zOK G X cc nL own ret nm) {i : Nat} {lv' : List (Nat × Value)} (hd : decode cc pc = .ok (.astore i, 2)) (hn : i < nL) (hl : (i, Value.null) :: lv.filter (fun q => !(q.1 == i) && !(q.1 + 1 == i && q.2.category == 2)) = lv') (K : zW G X nL M n k (pc + 2) lv' st) : zW G X nL M n k pc lv (.null :: st) := fun H locs ws ls h1 h2 h3 h4 h5 h6 h7 => lv_astoreN O.1 O.2.1 hd h5 hn hl (fun ls h5 => K H locs ws ls h1 h2 h3 h4 h5 h6 h7)
theorem z_iinc (O : zOK G X cc nL own ret nm) {i q : Nat} {d : Int} {x v : Int32} {lv' : List (Nat × Value)} (hd : decode cc pc = .ok (.iinc i d, 3)) (hq : lv[q]? = some (i, .int x)) (hv : x + Int32.ofInt d = v) (hn : i < nL) (hl : (i, Value.int v) :: lv.filter (fun q => !(q.1 == i) && !(q.1 + 1 == i && q.2.category == 2)) = lv') (K : zW G X nL M n k (pc + 3) lv' st) : zW G X nL M n k pc lv st := fun H locs ws ls h1 h2 h3 h4 h5 h6 h7 => lv_iinc O.1 O.2.1 hd h5 hq hv hn hl (fun ls h5 => K H locs ws ls h1 h2 h3 h4 h5 h6 h7)
theorem z_iadd (O : zOK G X cc nL own ret nm) {x y : Int32} (hd : decode cc pc = .ok (.iadd, 1)) (K : zW G X nL M n k (pc + 1) lv (.int (x + y) :: st)) : zW G X nL M n k pc lv (.int y :: .int x :: st) := fun H locs ws ls h1 h2 h3 h4 h5 h6 h7 => lv_iadd O.1 O.2.1 hd (K H locs ws ls h1 h2 h3 h4 h5 h6 h7)
theorem z_isub (O : zOK G X cc nL own ret nm) {x y : Int32} (hd : decode cc pc = .ok (.isub, 1)) (K : zW G X nL M n k (pc + 1) lv (.int (x - y) :: st)) : zW G X nL M n k pc lv (.int y :: .int x :: st) := fun H locs ws ls h1 h2 h3 h4 h5 h6 h7 => lv_isub O.1 O.2.1 hd (K H locs ws ls h1 h2 h3 h4 h5 h6 h7)
theorem z_imul (O : zOK G X cc nL own ret nm) {x y : Int32} (hd : decode cc pc = .ok (.imul, 1)) (K : zW G X nL M n k (pc + 1) lv (.int (x * y) :: st)) : zW G X nL M n k pc lv (.int y :: .int x :: st) := fun H locs ws ls h1 h2 h3 h4 h5 h6 h7 => lv_imul O.1 O.2.1 hd (K H locs ws ls h1 h2 h3 h4 h5 h6 h7)
theorem z_iand (O : zOK G X cc nL own ret nm) {x y : Int32} (hd : decode cc pc = .ok (.iand, 1)) (K : zW G X nL M n k (pc + 1) lv (.int (x &&& y) :: st)) : zW G X nL M n k pc lv (.int y :: .int x :: st) := fun H locs ws ls h1 h2 h3 h4 h5 h6 h7 => lv_iand O.1 O.2.1 hd (K H locs ws ls h1 h2 h3 h4 h5 h6 h7)
theorem z_ior (O : zOK G X cc nL own ret nm) {x y : Int32} (hd : decode cc pc = .ok (.ior, 1)) (K : zW G X nL M n k (pc + 1) lv (.int (x ||| y) :: st)) : zW G X nL M n k pc lv (.int y :: .int x :: st) := fun H locs ws ls h1 h2 h3 h4 h5 h6 h7 => lv_ior O.1 O.2.1 hd (K H locs ws ls h1 h2 h3 h4 h5 h6 h7)
theorem z_ixor (O : zOK G X cc nL own ret nm) {x y : Int32} (hd : decode cc pc = .ok (.ixor, 1)) (K : zW G X nL M n k (pc + 1) lv (.int (x ^^^ y) :: st)) : zW G X nL M n k pc lv (.int y :: .int x :: st) := fun H locs ws ls h1 h2 h3 h4 h5 h6 h7 => lv_ixor O.1 O.2.1 hd (K H locs ws ls h1 h2 h3 h4 h5 h6 h7)
theorem z_ishl (O : zOK G X cc nL own ret nm) {x y : Int32} (hd : decode cc pc = .ok (.ishl, 1)) (K : zW G X nL M n k (pc + 1) lv (.int (x <<< (y &&& 31)) :: st)) : zW G X nL M n k pc lv (.int y :: .int x :: st) := fun H locs ws ls h1 h2 h3 h4 h5 h6 h7 => lv_ishl O.1 O.2.1 hd (K H locs ws ls h1 h2 h3 h4 h5 h6 h7)
theorem z_ishr (O : zOK G X cc nL own ret nm) {x y : Int32} (hd : decode cc pc = .ok (.ishr, 1)) (K : zW G X nL M n k (pc + 1) lv (.int (x >>> (y &&& 31)) :: st)) : zW G X nL M n k pc lv (.int y :: .int x :: st) := fun H locs ws ls h1 h2 h3 h4 h5 h6 h7 => lv_ishr O.1 O.2.1 hd (K H locs ws ls h1 h2 h3 h4 h5 h6 h7)
theorem z_idiv (O : zOK G X cc nL own ret nm) {x y : Int32} (hd : decode cc pc = .ok (.idiv, 1)) (hne : ¬ y = 0) (K : zW G X nL M n k (pc + 1) lv (.int (x / y) :: st)) : zW G X nL M n k pc lv (.int y :: .int x :: st) := fun H locs ws ls h1 h2 h3 h4 h5 h6 h7 => lv_idiv O.1 O.2.1 hd hne (K H locs ws ls h1 h2 h3 h4 h5 h6 h7)
theorem z_irem (O : zOK G X cc nL own ret nm) {x y : Int32} (hd : decode cc pc = .ok (.irem, 1)) (hne : ¬ y = 0) (K : zW G X nL M n k (pc + 1) lv (.int (x - x / y * y) :: st)) : zW G X nL M n k pc lv (.int y :: .int x :: st) := fun H locs ws ls h1 h2 h3 h4 h5 h6 h7 => lv_irem O.1 O.2.1 hd hne (K H locs ws ls h1 h2 h3 h4 h5 h6 h7)
theorem z_ineg (O : zOK G X cc nL own ret nm) {x : Int32} (hd : decode cc pc = .ok (.ineg, 1)) (K : zW G X nL M n k (pc + 1) lv (.int (-x) :: st)) : zW G X nL M n k pc lv (.int x :: st) := fun H locs ws ls h1 h2 h3 h4 h5 h6 h7 => lv_ineg O.1 O.2.1 hd (K H locs ws ls h1 h2 h3 h4 h5 h6 h7)
theorem z_i2l (O : zOK G X cc nL own ret nm) {x : Int32} (hd : decode cc pc = .ok (.i2l, 1)) (K : zW G X nL M n k (pc + 1) lv (.long x.toInt64 :: st)) : zW G X nL M n k pc lv (.int x :: st) := fun H locs ws ls h1 h2 h3 h4 h5 h6 h7 => lv_i2l O.1 O.2.1 hd rfl (K H locs ws ls h1 h2 h3 h4 h5 h6 h7)
theorem z_land (O : zOK G X cc nL own ret nm) {x y : Int64} (hd : decode cc pc = .ok (.land, 1)) (K : zW G X nL M n k (pc + 1) lv (.long (x &&& y) :: st)) : zW G X nL M n k pc lv (.long y :: .long x :: st) := fun H locs ws ls h1 h2 h3 h4 h5 h6 h7 => lv_land O.1 O.2.1 hd (K H locs ws ls h1 h2 h3 h4 h5 h6 h7)
theorem z_lmul (O : zOK G X cc nL own ret nm) {x y : Int64} (hd : decode cc pc = .ok (.lmul, 1)) (K : zW G X nL M n k (pc + 1) lv (.long (x * y) :: st)) : zW G X nL M n k pc lv (.long y :: .long x :: st) := fun H locs ws ls h1 h2 h3 h4 h5 h6 h7 => lv_lmul O.1 O.2.1 hd (K H locs ws ls h1 h2 h3 h4 h5 h6 h7)
theorem z_lshl (O : zOK G X cc nL own ret nm) {x : Int64} {y : Int32} (hd : decode cc pc = .ok (.lshl, 1)) (K : zW G X nL M n k (pc + 1) lv (.long (x <<< (y.toInt64 &&& 63)) :: st)) : zW G X nL M n k pc lv (.int y :: .long x :: st) := fun H locs ws ls h1 h2 h3 h4 h5 h6 h7 => lv_lshl O.1 O.2.1 hd rfl (K H locs ws ls h1 h2 h3 h4 h5 h6 h7)
theorem z_lcmp (O : zOK G X cc nL own ret nm) {x y : Int64} (hd : decode cc pc = .ok (.lcmp, 1)) (K : zW G X nL M n k (pc + 1) lv (.int (lg_cmp x y) :: st)) : zW G X nL M n k pc lv (.long y :: .long x :: st) := fun H locs ws ls h1 h2 h3 h4 h5 h6 h7 => W.lcmp O.1 O.2.1 hd (K H locs ws ls h1 h2 h3 h4 h5 h6 h7)
theorem z_dup (O : zOK G X cc nL own ret nm) {v : Value} (hd : decode cc pc = .ok (.dup, 1)) (hc : v.category = 1) (K : zW G X nL M n k (pc + 1) lv (v :: v :: st)) : zW G X nL M n k pc lv (v :: st) := fun H locs ws ls h1 h2 h3 h4 h5 h6 h7 => lv_dup O.1 O.2.1 hd hc (K H locs ws ls h1 h2 h3 h4 h5 h6 h7)
theorem z_pop (O : zOK G X cc nL own ret nm) {v : Value} (hd : decode cc pc = .ok (.pop, 1)) (hc : v.category = 1) (K : zW G X nL M n k (pc + 1) lv st) : zW G X nL M n k pc lv (v :: st) := fun H locs ws ls h1 h2 h3 h4 h5 h6 h7 => lv_pop O.1 O.2.1 hd hc (K H locs ws ls h1 h2 h3 h4 h5 h6 h7)
theorem z_dup2 (O : zOK G X cc nL own ret nm) {v w : Value} (hd : decode cc pc = .ok (.dup2, 1)) (hc : v.category = 1) (hc2 : w.category = 1) (K : zW G X nL M n k (pc + 1) lv (v :: w :: v :: w :: st)) : zW G X nL M n k pc lv (v :: w :: st) := fun H locs ws ls h1 h2 h3 h4 h5 h6 h7 => lv_dup2_11 O.1 O.2.1 hd hc hc2 (K H locs ws ls h1 h2 h3 h4 h5 h6 h7)
theorem z_if_eq (O : zOK G X cc nL own ret nm) {x : Int32} {off : Int} (tgt : Nat) (hd : decode cc pc = .ok (.ifCond .eq off, 3)) (ht : (pc : Int) + off = (tgt : Int)) (kt : x = 0 → zW G X nL M n k tgt lv st) (kf : ¬ x = 0 → zW G X nL M n k (pc + 3) lv st) : zW G X nL M n k pc lv (.int x :: st) := fun H locs ws ls h1 h2 h3 h4 h5 h6 h7 => lv_if_eq O.1 O.2.1 hd ht (fun c => kt c H locs ws ls h1 h2 h3 h4 h5 h6 h7) (fun c => kf c H locs ws ls h1 h2 h3 h4 h5 h6 h7)
theorem z_icmp_eq (O : zOK G X cc nL own ret nm) {x y : Int32} {off : Int} (tgt : Nat) (hd : decode cc pc = .ok (.if_icmp .eq off, 3)) (ht : (pc : Int) + off = (tgt : Int)) (kt : x = y → zW G X nL M n k tgt lv st) (kf : ¬ x = y → zW G X nL M n k (pc + 3) lv st) : zW G X nL M n k pc lv (.int y :: .int x :: st) := fun H locs ws ls h1 h2 h3 h4 h5 h6 h7 => lv_icmp_eq O.1 O.2.1 hd ht (fun c => kt c H locs ws ls h1 h2 h3 h4 h5 h6 h7) (fun c => kf c H locs ws ls h1 h2 h3 h4 h5 h6 h7)
theorem z_if_ne (O : zOK G X cc nL own ret nm) {x : Int32} {off : Int} (tgt : Nat) (hd : decode cc pc = .ok (.ifCond .ne off, 3)) (ht : (pc : Int) + off = (tgt : Int)) (kt : ¬ x = 0 → zW G X nL M n k tgt lv st) (kf : x = 0 → zW G X nL M n k (pc + 3) lv st) : zW G X nL M n k pc lv (.int x :: st) := fun H locs ws ls h1 h2 h3 h4 h5 h6 h7 => lv_if_ne O.1 O.2.1 hd ht (fun c => kt c H locs ws ls h1 h2 h3 h4 h5 h6 h7) (fun c => kf c H locs ws ls h1 h2 h3 h4 h5 h6 h7)
theorem z_icmp_ne (O : zOK G X cc nL own ret nm) {x y : Int32} {off : Int} (tgt : Nat) (hd : decode cc pc = .ok (.if_icmp .ne off, 3)) (ht : (pc : Int) + off = (tgt : Int)) (kt : ¬ x = y → zW G X nL M n k tgt lv st) (kf : x = y → zW G X nL M n k (pc + 3) lv st) : zW G X nL M n k pc lv (.int y :: .int x :: st) := fun H locs ws ls h1 h2 h3 h4 h5 h6 h7 => lv_icmp_ne O.1 O.2.1 hd ht (fun c => kt c H locs ws ls h1 h2 h3 h4 h5 h6 h7) (fun c => kf c H locs ws ls h1 h2 h3 h4 h5 h6 h7)
theorem z_if_lt (O : zOK G X cc nL own ret nm) {x : Int32} {off : Int} (tgt : Nat) (hd : decode cc pc = .ok (.ifCond .lt off, 3)) (ht : (pc : Int) + off = (tgt : Int)) (kt : x < 0 → zW G X nL M n k tgt lv st) (kf : ¬ x < 0 → zW G X nL M n k (pc + 3) lv st) : zW G X nL M n k pc lv (.int x :: st) := fun H locs ws ls h1 h2 h3 h4 h5 h6 h7 => lv_if_lt O.1 O.2.1 hd ht (fun c => kt c H locs ws ls h1 h2 h3 h4 h5 h6 h7) (fun c => kf c H locs ws ls h1 h2 h3 h4 h5 h6 h7)
theorem z_icmp_lt (O : zOK G X cc nL own ret nm) {x y : Int32} {off : Int} (tgt : Nat) (hd : decode cc pc = .ok (.if_icmp .lt off, 3)) (ht : (pc : Int) + off = (tgt : Int)) (kt : x < y → zW G X nL M n k tgt lv st) (kf : ¬ x < y → zW G X nL M n k (pc + 3) lv st) : zW G X nL M n k pc lv (.int y :: .int x :: st) := fun H locs ws ls h1 h2 h3 h4 h5 h6 h7 => lv_icmp_lt O.1 O.2.1 hd ht (fun c => kt c H locs ws ls h1 h2 h3 h4 h5 h6 h7) (fun c => kf c H locs ws ls h1 h2 h3 h4 h5 h6 h7)
theorem z_if_ge (O : zOK G X cc nL own ret nm) {x : Int32} {off : Int} (tgt : Nat) (hd : decode cc pc = .ok (.ifCond .ge off, 3)) (ht : (pc : Int) + off = (tgt : Int)) (kt : 0 ≤ x → zW G X nL M n k tgt lv st) (kf : ¬ 0 ≤ x → zW G X nL M n k (pc + 3) lv st) : zW G X nL M n k pc lv (.int x :: st) := fun H locs ws ls h1 h2 h3 h4 h5 h6 h7 => lv_if_ge O.1 O.2.1 hd ht (fun c => kt c H locs ws ls h1 h2 h3 h4 h5 h6 h7) (fun c => kf c H locs ws ls h1 h2 h3 h4 h5 h6 h7)
theorem z_icmp_ge (O : zOK G X cc nL own ret nm) {x y : Int32} {off : Int} (tgt : Nat) (hd : decode cc pc = .ok (.if_icmp .ge off, 3)) (ht : (pc : Int) + off = (tgt : Int)) (kt : y ≤ x → zW G X nL M n k tgt lv st) (kf : ¬ y ≤ x → zW G X nL M n k (pc + 3) lv st) : zW G X nL M n k pc lv (.int y :: .int x :: st) := fun H locs ws ls h1 h2 h3 h4 h5 h6 h7 => lv_icmp_ge O.1 O.2.1 hd ht (fun c => kt c H locs ws ls h1 h2 h3 h4 h5 h6 h7) (fun c => kf c H locs ws ls h1 h2 h3 h4 h5 h6 h7)
theorem z_if_gt (O : zOK G X cc nL own ret nm) {x : Int32} {off : Int} (tgt : Nat) (hd : decode cc pc = .ok (.ifCond .gt off, 3)) (ht : (pc : Int) + off = (tgt : Int)) (kt : 0 < x → zW G X nL M n k tgt lv st) (kf : ¬ 0 < x → zW G X nL M n k (pc + 3) lv st) : zW G X nL M n k pc lv (.int x :: st) := fun H locs ws ls h1 h2 h3 h4 h5 h6 h7 => lv_if_gt O.1 O.2.1 hd ht (fun c => kt c H locs ws ls h1 h2 h3 h4 h5 h6 h7) (fun c => kf c H locs ws ls h1 h2 h3 h4 h5 h6 h7)
theorem z_icmp_gt (O : zOK G X cc nL own ret nm) {x y : Int32} {off : Int} (tgt : Nat) (hd : decode cc pc = .ok (.if_icmp .gt off, 3)) (ht : (pc : Int) + off = (tgt : Int)) (kt : y < x → zW G X nL M n k tgt lv st) (kf : ¬ y < x → zW G X nL M n k (pc + 3) lv st) : zW G X nL M n k pc lv (.int y :: .int x :: st) := fun H locs ws ls h1 h2 h3 h4 h5 h6 h7 => lv_icmp_gt O.1 O.2.1 hd ht (fun c => kt c H locs ws ls h1 h2 h3 h4 h5 h6 h7) (fun c => kf c H locs ws ls h1 h2 h3 h4 h5 h6 h7)
theorem z_if_le (O : zOK G X cc nL own ret nm) {x : Int32} {off : Int} (tgt : Nat) (hd : decode cc pc = .ok (.ifCond .le off, 3)) (ht : (pc : Int) + off = (tgt : Int)) (kt : x ≤ 0 → zW G X nL M n k tgt lv st) (kf : ¬ x ≤ 0 → zW G X nL M n k (pc + 3) lv st) : zW G X nL M n k pc lv (.int x :: st) := fun H locs ws ls h1 h2 h3 h4 h5 h6 h7 => lv_if_le O.1 O.2.1 hd ht (fun c => kt c H locs ws ls h1 h2 h3 h4 h5 h6 h7) (fun c => kf c H locs ws ls h1 h2 h3 h4 h5 h6 h7)
theorem z_icmp_le (O : zOK G X cc nL own ret nm) {x y : Int32} {off : Int} (tgt : Nat) (hd : decode cc pc = .ok (.if_icmp .le off, 3)) (ht : (pc : Int) + off = (tgt : Int)) (kt : x ≤ y → zW G X nL M n k tgt lv st) (kf : ¬ x ≤ y → zW G X nL M n k (pc + 3) lv st) : zW G X nL M n k pc lv (.int y :: .int x :: st) := fun H locs ws ls h1 h2 h3 h4 h5 h6 h7 => lv_icmp_le O.1 O.2.1 hd ht (fun c => kt c H locs ws ls h1 h2 h3 h4 h5 h6 h7) (fun c => kf c H locs ws ls h1 h2 h3 h4 h5 h6 h7)
theorem z_goto (O : zOK G X cc nL own ret nm) {off : Int} (tgt : Nat) (hd : decode cc pc = .ok (.goto off, 3)) (ht : (pc : Int) + off = (tgt : Int)) (K : zW G X nL M n k tgt lv st) : zW G X nL M n k pc lv st := fun H locs ws ls h1 h2 h3 h4 h5 h6 h7 => lv_goto O.1 O.2.1 hd ht (K H locs ws ls h1 h2 h3 h4 h5 h6 h7)
theorem z_ifnull (O : zOK G X cc nL own ret nm) {x : Nat} {off : Int} (hd : decode cc pc = .ok (.ifnull off, 3)) (K : zW G X nL M n k (pc + 3) lv st) : zW G X nL M n k pc lv (.ref x :: st) := fun H locs ws ls h1 h2 h3 h4 h5 h6 h7 => lv_ifnull O.1 O.2.1 hd (K H locs ws ls h1 h2 h3 h4 h5 h6 h7)
theorem z_ifnonnullN (O : zOK G X cc nL own ret nm) {off : Int} (hd : decode cc pc = .ok (.ifnonnull off, 3)) (K : zW G X nL M n k (pc + 3) lv st) : zW G X nL M n k pc lv (.null :: st) := fun H locs ws ls h1 h2 h3 h4 h5 h6 h7 => lv_ifnonnullN O.1 O.2.1 hd (K H locs ws ls h1 h2 h3 h4 h5 h6 h7)
theorem z_ifnonnull (O : zOK G X cc nL own ret nm) {x : Nat} {off : Int} (tgt : Nat) (hd : decode cc pc = .ok (.ifnonnull off, 3)) (ht : (pc : Int) + off = (tgt : Int)) (K : zW G X nL M n k tgt lv st) : zW G X nL M n k pc lv (.ref x :: st) := fun H locs ws ls h1 h2 h3 h4 h5 h6 h7 => lv_ifnonnull O.1 O.2.1 hd ht (K H locs ws ls h1 h2 h3 h4 h5 h6 h7)
theorem z_ifnullN (O : zOK G X cc nL own ret nm) {off : Int} (tgt : Nat) (hd : decode cc pc = .ok (.ifnull off, 3)) (ht : (pc : Int) + off = (tgt : Int)) (K : zW G X nL M n k tgt lv st) : zW G X nL M n k pc lv (.null :: st) := fun H locs ws ls h1 h2 h3 h4 h5 h6 h7 => lv_ifnullN O.1 O.2.1 hd ht (K H locs ws ls h1 h2 h3 h4 h5 h6 h7)
theorem z_acmp_eq (O : zOK G X cc nL own ret nm) {rx ry : Option Nat} {off : Int} (tgt : Nat) (hd : decode cc pc = .ok (.if_acmp .eq off, 3)) (ht : (pc : Int) + off = (tgt : Int)) (kt : rx = ry → zW G X nL M n k tgt lv st) (kf : ¬ rx = ry → zW G X nL M n k (pc + 3) lv st) : zW G X nL M n k pc lv (va_rf ry :: va_rf rx :: st) := fun H locs ws ls h1 h2 h3 h4 h5 h6 h7 => lv_acmp_eq O.1 O.2.1 hd ht (fun c => kt c H locs ws ls h1 h2 h3 h4 h5 h6 h7) (fun c => kf c H locs ws ls h1 h2 h3 h4 h5 h6 h7)
theorem z_acmp_ne (O : zOK G X cc nL own ret nm) {rx ry : Option Nat} {off : Int} (tgt : Nat) (hd : decode cc pc = .ok (.if_acmp .ne off, 3)) (ht : (pc : Int) + off = (tgt : Int)) (kt : ¬ rx = ry → zW G X nL M n k tgt lv st) (kf : rx = ry → zW G X nL M n k (pc + 3) lv st) : zW G X nL M n k pc lv (va_rf ry :: va_rf rx :: st) := fun H locs ws ls h1 h2 h3 h4 h5 h6 h7 => lv_acmp_ne O.1 O.2.1 hd ht (fun c => kt c H locs ws ls h1 h2 h3 h4 h5 h6 h7) (fun c => kf c H locs ws ls h1 h2 h3 h4 h5 h6 h7)
theorem z_tsOut (O : zOK G X cc nL own ret nm) {dflt lo hi : Int} {offs : Array Int} {len : Nat} {x : Int32} (tgt : Nat) (hd : decode cc pc = .ok (.tableswitch dflt lo hi offs, len)) (h : x.toInt < lo ∨ hi < x.toInt) (ht : (pc : Int) + dflt = (tgt : Int)) (K : zW G X nL M n k tgt lv st) : zW G X nL M n k pc lv (.int x :: st) := fun H locs ws ls h1 h2 h3 h4 h5 h6 h7 => lv_tableOut O.1 O.2.1 hd h ht (K H locs ws ls h1 h2 h3 h4 h5 h6 h7)
theorem z_tsIn (O : zOK G X cc nL own ret nm) {dflt lo hi off : Int} {offs : Array Int} {len : Nat} {x : Int32} (tgt : Nat) (hd : decode cc pc = .ok (.tableswitch dflt lo hi offs, len)) (g1 : ¬ x.toInt < lo) (g2 : ¬ hi < x.toInt) (ho : offs[(x.toInt - lo).toNat]? = some off) (ht : (pc : Int) + off = (tgt : Int)) (K : zW G X nL M n k tgt lv st) : zW G X nL M n k pc lv (.int x :: st) := fun H locs ws ls h1 h2 h3 h4 h5 h6 h7 => lv_tableIn O.1 O.2.1 hd g1 g2 ho ht (K H locs ws ls h1 h2 h3 h4 h5 h6 h7)
theorem z_to {lv' : List (Nat × Value)} (ks : List Nat) (hl : lv_pick lv ks = lv') (K : zW G X nL M n k pc lv' st) : zW G X nL M n k pc lv st := fun H locs ws ls h1 h2 h3 h4 h5 h6 h7 => K H locs ws ls h1 h2 h3 h4 (lv_sub h5 ks hl) h6 h7
theorem z_wide {n' k' : Nat} (hn : n ≤ n') (hk : k ≤ k') (gn : n' ≤ X.R.cells) (gk : k' ≤ X.R.slots) (K : zW G X nL M n' k' pc lv st) : zW G X nL M n k pc lv st := fun H locs ws ls h1 h2 h3 h4 h5 h6 h7 => W.widen hn hk (K H locs ws ls h1 h2 h3 h4 h5 gn gk)
end ZROW
end
section
/-! ===== rows that read and write the memory ===== -/
/-- the pool's entry index of class own is field j of class ci -/
def zFld (own : String) (index ci j : Nat) (r : Bool) : Prop := ∃ (C : String) (T : u_T) (N : Nat) (ref : String), vwCl[ci]? = some (C, T, N) ∧ j < N ∧ (∀ w ∈ u_ws C T N, w ∈ zT) ∧ Cond.fieldLink own index ref (T j).2.1 (T j).2.2.1 ∈ zT ∧ ((T j).1 = ref ∨ Cond.sameField ref (T j).1 (T j).2.1 (T j).2.2.1 ∈ zT) ∧ (zlay ci)[j]? = some r ∧ ci + 1 < 100
def zFldP (own : String) (index ci j : Nat) (r fin : Bool) : Prop := ∃ (C : String) (T : u_T) (N : Nat) (ref : String) (ty : Nat → FieldType), vwCl[ci]? = some (C, T, N) ∧ j < N ∧ (∀ w ∈ u_ws C T N, w ∈ zT) ∧ Cond.fieldLink own index ref (T j).2.1 (T j).2.2.1 ∈ zT ∧ ((T j).1 = ref ∨ Cond.sameField ref (T j).1 (T j).2.1 (T j).2.2.1 ∈ zT) ∧ (zlay ci)[j]? = some r ∧ ci + 1 < 100 ∧
  (∀ i, i < N → parseFieldDescriptor (T i).2.2.1 = some (ty i)) ∧ (∀ a, a < N → ∀ b, b < N → a ≠ b → (T a).2.1 ≠ (T b).2.1) ∧ (T j).2.2.2 = fin ∧ (fin = true → (T j).1 = own) ∧ (r = false → ty j = .int) ∧ (r = true → (ty j).isReference = true)
theorem zrf_narrow {t : FieldType} (h : t.isReference = true) (v : Option Nat) : narrow t (va_rf v) = va_rf v ∧ fits t (va_rf v) = true := by
  cases v <;> cases t <;> simp [FieldType.isReference] at h <;> exact ⟨rfl, rfl⟩
section ZMEM
variable {G : zG} {X : zX} {cc : ByteArray} {nL : Nat} {own : String} {ret : Option FieldType} {nm : String} {M : zM} {n k pc : Nat} {lv : List (Nat × Value)} {st : List Value}
theorem zE_obj {cA : Nat → ClassId} {a ci : Nat} (hk : M.1 a = ci + 1) (h : ci + 1 < 100) : zE' cA M a = .inr (ci, zF (zlay ci) 0 (M.2.2.1 a) (M.2.2.2 a)) := by
  simp only [zE', zE, hk]
  rw [if_pos h]
  rfl
theorem zE_int {cA : Nat → ClassId} {a : Nat} (hk : M.1 a = 100) : zE' cA M a = .inl (cA 0, M.2.1 a, .inl (M.2.2.1 a)) := by
  simp [zE', zE, hk]
theorem zE_bool {cA : Nat → ClassId} {a : Nat} (hk : M.1 a = 101) : zE' cA M a = .inl (cA 1, M.2.1 a, .inl (M.2.2.1 a)) := by
  simp [zE', zE, hk]
theorem zE_ref {cA : Nat → ClassId} {a t : Nat} (hk : M.1 a = 102 + t) : zE' cA M a = .inl (cA (2 + t), M.2.1 a, .inr (.inr (.inr (.inr (M.2.2.2 a))))) := by
  simp only [zE', zE, hk]
  rw [if_neg (by omega), if_neg (by omega), show 102 + t - 100 = 2 + t by omega]
theorem z_get (O : zOK G X cc nL own ret nm) {index ci j a : Nat} {r : Bool} {v : Value} (F : zFld own index ci j r) (hd : decode cc pc = .ok (.getfield index, 3)) (hk : M.1 a = ci + 1) (hv : (if r then va_rf (M.2.2.2 a j) else Value.int (M.2.2.1 a j)) = v) (K : zW G X nL M n k (pc + 3) lv (v :: st)) : zW G X nL M n k pc lv (.ref a :: st) := by
  intro H locs ws ls h1 h2 h3 h4 h5 h6 h7
  obtain ⟨C, T, N, ref, c1, c2, c3, c4, c5, c6, c7⟩ := F
  obtain ⟨q, hq⟩ := h1.1 a (by rw [hk]; omega)
  rw [zE_obj hk c7] at hq
  refine va_get O.1 O.2.1 O.2.2.2.2.2.1 c3 O.2.2.2.2.1 O.2.2.2.2.2.2.1.1 h2 q hq c1 j c2 (O.2.2.2.2.2.1 _ c4) ?_ (v := v) ?_ hd (K H locs ws ls h1 h2 h3 h4 h5 h6 h7)
  · intro x hx
    rcases c5 with e | e
    · rw [← e]; exact hx
    · exact u_same (O.2.2.2.2.2.1 _ e) x hx
  · rw [zF_get _ _ _ _ _ _ c6, Nat.zero_add, hv]
theorem z_geti (O : zOK G X cc nL own ret nm) {index ci j a : Nat} (F : zFld own index ci j false) (hd : decode cc pc = .ok (.getfield index, 3)) (hk : M.1 a = ci + 1) (K : zW G X nL M n k (pc + 3) lv (.int (M.2.2.1 a j) :: st)) : zW G X nL M n k pc lv (.ref a :: st) := z_get O F hd hk rfl K
theorem z_getr (O : zOK G X cc nL own ret nm) {index ci j a b : Nat} (F : zFld own index ci j true) (hd : decode cc pc = .ok (.getfield index, 3)) (hk : M.1 a = ci + 1) (hr : M.2.2.2 a j = some b) (K : zW G X nL M n k (pc + 3) lv (.ref b :: st)) : zW G X nL M n k pc lv (.ref a :: st) := z_get O F hd hk (by rw [hr]; rfl) K
theorem z_getN (O : zOK G X cc nL own ret nm) {index ci j a : Nat} (F : zFld own index ci j true) (hd : decode cc pc = .ok (.getfield index, 3)) (hk : M.1 a = ci + 1) (hr : M.2.2.2 a j = none) (K : zW G X nL M n k (pc + 3) lv (.null :: st)) : zW G X nL M n k pc lv (.ref a :: st) := z_get O F hd hk (by rw [hr]; rfl) K
/-- a field is written: what the new memory is -/
theorem zPut_i (M : zM) (a j : Nat) (v : Int32) {cA : Nat → ClassId} {ci : Nat} (hk : M.1 a = ci + 1) (hc : ci + 1 < 100) (hl : (zlay ci)[j]? = some false) : (Sum.inr (ci, (zF (zlay ci) 0 (M.2.2.1 a) (M.2.2.2 a)).set j (.int v)) : va_E) = zE' cA (zi M a j v) a := by
  rw [zE_obj (M := zi M a j v) (show (zi M a j v).1 a = ci + 1 from hk) hc, zF_seti _ _ _ _ _ _ hl]
  simp only [zi, Nat.zero_add, true_and]
theorem zPut_r (M : zM) (a j : Nat) (v : Option Nat) {cA : Nat → ClassId} {ci : Nat} (hk : M.1 a = ci + 1) (hc : ci + 1 < 100) (hl : (zlay ci)[j]? = some true) : (Sum.inr (ci, (zF (zlay ci) 0 (M.2.2.1 a) (M.2.2.2 a)).set j (va_rf v)) : va_E) = zE' cA (zr M a j v) a := by
  rw [zE_obj (M := zr M a j v) (show (zr M a j v).1 a = ci + 1 from hk) hc, zF_setr _ _ _ _ _ _ hl]
  simp only [zr, Nat.zero_add, true_and]
theorem zlay_lt {ci j : Nat} {r : Bool} {i : Nat → Int32} {f : Nat → Option Nat} (h : (zlay ci)[j]? = some r) : j < (zF (zlay ci) 0 i f).length := by
  rw [zF_len]
  exact (List.getElem?_eq_some_iff.mp h).1
theorem z_puti (O : zOK G X cc nL own ret nm) {index ci j a : Nat} {v : Int32} (F : zFldP own index ci j false false) (hd : decode cc pc = .ok (.putfield index, 3)) (hk : M.1 a = ci + 1) (K : zW G X nL (zi M a j v) n k (pc + 3) lv st) : zW G X nL M n k pc lv (.int v :: .ref a :: st) := by
  intro H locs ws ls h1 h2 h3 h4 h5 h6 h7
  obtain ⟨C, T, N, ref, ty, c1, c2, c3, c4, c5, c6, c7, c8, c9, c10, c11, c12, c13⟩ := F
  obtain ⟨q, hq⟩ := h1.1 a (by rw [hk]; omega)
  rw [zE_obj hk c7] at hq
  refine va_put O.1 O.2.1 O.2.2.2.2.2.1 c3 ty c8 c9 O.2.2.2.2.1 O.2.2.2.2.2.2.1.1 h2 h3 h4 q hq c1 j c2 (O.2.2.2.2.2.1 _ c4) ?_ c10 (ty := .int) (by rw [c8 j c2, c12 rfl]) rfl rfl (zlay_lt c6) hd (fun H1 locs1 g1 g2 g3 => ?_)
  · intro x hx
    rcases c5 with e | e
    · rw [← e]; exact hx
    · exact u_same (O.2.2.2.2.2.1 _ e) x hx
  · exact K H1 locs1 _ ls (h1.set h3 hq (zi_ne M a j v) (by show M.1 a ≠ 0; rw [hk]; omega) (zPut_i M a j v hk c7 c6)) g1 g2 g3 h5 h6 h7
theorem z_putiF (O : zOK G X cc nL own ret "<init>") {index ci j a : Nat} {v : Int32} (F : zFldP own index ci j false true) (hd : decode cc pc = .ok (.putfield index, 3)) (hk : M.1 a = ci + 1) (K : zW G X nL (zi M a j v) n k (pc + 3) lv st) : zW G X nL M n k pc lv (.int v :: .ref a :: st) := by
  intro H locs ws ls h1 h2 h3 h4 h5 h6 h7
  obtain ⟨C, T, N, ref, ty, c1, c2, c3, c4, c5, c6, c7, c8, c9, c10, c11, c12, c13⟩ := F
  obtain ⟨q, hq⟩ := h1.1 a (by rw [hk]; omega)
  rw [zE_obj hk c7] at hq
  refine va_putF O.1 O.2.1 O.2.2.2.2.2.1 c3 ty c8 c9 O.2.2.2.2.1 O.2.2.2.2.2.2.1.1 h2 h3 h4 q hq c1 j c2 (O.2.2.2.2.2.1 _ c4) ?_ c10 O.2.2.2.2.2.2.2.2.1 (c11 rfl) (ty := .int) (by rw [c8 j c2, c12 rfl]) rfl rfl (zlay_lt c6) hd (fun H1 locs1 g1 g2 g3 => ?_)
  · intro x hx
    rcases c5 with e | e
    · rw [← e]; exact hx
    · exact u_same (O.2.2.2.2.2.1 _ e) x hx
  · exact K H1 locs1 _ ls (h1.set h3 hq (zi_ne M a j v) (by show M.1 a ≠ 0; rw [hk]; omega) (zPut_i M a j v hk c7 c6)) g1 g2 g3 h5 h6 h7
theorem z_putO (O : zOK G X cc nL own ret nm) {index ci j a : Nat} {v : Option Nat} (F : zFldP own index ci j true false) (hd : decode cc pc = .ok (.putfield index, 3)) (hk : M.1 a = ci + 1) (K : zW G X nL (zr M a j v) n k (pc + 3) lv st) : zW G X nL M n k pc lv (va_rf v :: .ref a :: st) := by
  intro H locs ws ls h1 h2 h3 h4 h5 h6 h7
  obtain ⟨C, T, N, ref, ty, c1, c2, c3, c4, c5, c6, c7, c8, c9, c10, c11, c12, c13⟩ := F
  obtain ⟨q, hq⟩ := h1.1 a (by rw [hk]; omega)
  rw [zE_obj hk c7] at hq
  refine va_put O.1 O.2.1 O.2.2.2.2.2.1 c3 ty c8 c9 O.2.2.2.2.1 O.2.2.2.2.2.2.1.1 h2 h3 h4 q hq c1 j c2 (O.2.2.2.2.2.1 _ c4) ?_ c10 (ty := ty j) (c8 j c2) (zrf_narrow (c13 rfl) v).1 (zrf_narrow (c13 rfl) v).2 (zlay_lt c6) hd (fun H1 locs1 g1 g2 g3 => ?_)
  · intro x hx
    rcases c5 with e | e
    · rw [← e]; exact hx
    · exact u_same (O.2.2.2.2.2.1 _ e) x hx
  · exact K H1 locs1 _ ls (h1.set h3 hq (zr_ne M a j v) (by show M.1 a ≠ 0; rw [hk]; omega) (zPut_r M a j v hk c7 c6)) g1 g2 g3 h5 h6 h7
theorem z_putOF (O : zOK G X cc nL own ret "<init>") {index ci j a : Nat} {v : Option Nat} (F : zFldP own index ci j true true) (hd : decode cc pc = .ok (.putfield index, 3)) (hk : M.1 a = ci + 1) (K : zW G X nL (zr M a j v) n k (pc + 3) lv st) : zW G X nL M n k pc lv (va_rf v :: .ref a :: st) := by
  intro H locs ws ls h1 h2 h3 h4 h5 h6 h7
  obtain ⟨C, T, N, ref, ty, c1, c2, c3, c4, c5, c6, c7, c8, c9, c10, c11, c12, c13⟩ := F
  obtain ⟨q, hq⟩ := h1.1 a (by rw [hk]; omega)
  rw [zE_obj hk c7] at hq
  refine va_putF O.1 O.2.1 O.2.2.2.2.2.1 c3 ty c8 c9 O.2.2.2.2.1 O.2.2.2.2.2.2.1.1 h2 h3 h4 q hq c1 j c2 (O.2.2.2.2.2.1 _ c4) ?_ c10 O.2.2.2.2.2.2.2.2.1 (c11 rfl) (ty := ty j) (c8 j c2) (zrf_narrow (c13 rfl) v).1 (zrf_narrow (c13 rfl) v).2 (zlay_lt c6) hd (fun H1 locs1 g1 g2 g3 => ?_)
  · intro x hx
    rcases c5 with e | e
    · rw [← e]; exact hx
    · exact u_same (O.2.2.2.2.2.1 _ e) x hx
  · exact K H1 locs1 _ ls (h1.set h3 hq (zr_ne M a j v) (by show M.1 a ≠ 0; rw [hk]; omega) (zPut_r M a j v hk c7 c6)) g1 g2 g3 h5 h6 h7
theorem z_putr (O : zOK G X cc nL own ret nm) {index ci j a v : Nat} (F : zFldP own index ci j true false) (hd : decode cc pc = .ok (.putfield index, 3)) (hk : M.1 a = ci + 1) (K : zW G X nL (zr M a j (some v)) n k (pc + 3) lv st) : zW G X nL M n k pc lv (.ref v :: .ref a :: st) := z_putO (v := some v) O F hd hk K
theorem z_putrF (O : zOK G X cc nL own ret "<init>") {index ci j a v : Nat} (F : zFldP own index ci j true true) (hd : decode cc pc = .ok (.putfield index, 3)) (hk : M.1 a = ci + 1) (K : zW G X nL (zr M a j (some v)) n k (pc + 3) lv st) : zW G X nL M n k pc lv (.ref v :: .ref a :: st) := z_putOF (v := some v) O F hd hk K
theorem z_iald (O : zOK G X cc nL own ret nm) {a : Nat} {i : Int32} (hd : decode cc pc = .ok (.iaload, 1)) (hk : M.1 a = 100) (hi : vp_in i (M.2.1 a)) (K : zW G X nL M n k (pc + 1) lv (.int (M.2.2.1 a i.toNatClampNeg) :: st)) : zW G X nL M n k pc lv (.int i :: .ref a :: st) := by
  intro H locs ws ls h1 h2 h3 h4 h5 h6 h7
  obtain ⟨q, hq⟩ := h1.1 a (by rw [hk]; omega)
  rw [zE_int hk] at hq
  exact va_iald O.1 O.2.1 O.2.2.2.2.2.2.1.1 h2 q 0 hq rfl hi hd (K H locs ws ls h1 h2 h3 h4 h5 h6 h7)
theorem z_zald (O : zOK G X cc nL own ret nm) {a : Nat} {i : Int32} (hd : decode cc pc = .ok (.baload, 1)) (hk : M.1 a = 101) (hi : vp_in i (M.2.1 a)) (K : zW G X nL M n k (pc + 1) lv (.int (M.2.2.1 a i.toNatClampNeg) :: st)) : zW G X nL M n k pc lv (.int i :: .ref a :: st) := by
  intro H locs ws ls h1 h2 h3 h4 h5 h6 h7
  obtain ⟨q, hq⟩ := h1.1 a (by rw [hk]; omega)
  rw [zE_bool hk] at hq
  exact va_zald O.1 O.2.1 O.2.2.2.2.2.2.1.1 h2 q 1 hq rfl hi hd (K H locs ws ls h1 h2 h3 h4 h5 h6 h7)
theorem zUpd_i (M : zM) (a j : Nat) (v : Int32) : (zi M a j v).2.2.1 a = upd (M.2.2.1 a) j v := by
  funext x
  simp [zi, upd]
theorem zUpd_r (M : zM) (a j : Nat) (v : Option Nat) : (zr M a j v).2.2.2 a = va_up (M.2.2.2 a) j v := by
  funext x
  simp [zr, va_up]
theorem z_iast (O : zOK G X cc nL own ret nm) {a : Nat} {i v : Int32} (hd : decode cc pc = .ok (.iastore, 1)) (hk : M.1 a = 100) (hi : vp_in i (M.2.1 a)) (K : zW G X nL (zi M a i.toNatClampNeg v) n k (pc + 1) lv st) : zW G X nL M n k pc lv (.int v :: .int i :: .ref a :: st) := by
  intro H locs ws ls h1 h2 h3 h4 h5 h6 h7
  obtain ⟨q, hq⟩ := h1.1 a (by rw [hk]; omega)
  rw [zE_int hk] at hq
  refine va_iast O.1 O.2.1 O.2.2.2.2.2.2.1.1 h2 h3 h4 q 0 hq rfl hi hd (fun H1 locs1 g1 g2 g3 => ?_)
  exact K H1 locs1 _ ls (h1.set h3 hq (zi_ne M a _ v) (by show M.1 a ≠ 0; rw [hk]; omega) (by rw [zE_int (M := zi M a i.toNatClampNeg v) hk, zUpd_i]; rfl)) g1 g2 g3 h5 h6 h7
theorem z_zast (O : zOK G X cc nL own ret nm) {a : Nat} {i v : Int32} (hd : decode cc pc = .ok (.bastore, 1)) (hk : M.1 a = 101) (hi : vp_in i (M.2.1 a)) (K : zW G X nL (zi M a i.toNatClampNeg (vp_nar .boolean v)) n k (pc + 1) lv st) : zW G X nL M n k pc lv (.int v :: .int i :: .ref a :: st) := by
  intro H locs ws ls h1 h2 h3 h4 h5 h6 h7
  obtain ⟨q, hq⟩ := h1.1 a (by rw [hk]; omega)
  rw [zE_bool hk] at hq
  refine va_zast O.1 O.2.1 O.2.2.2.2.2.2.1.1 h2 h3 h4 q 1 hq rfl hi hd (fun H1 locs1 g1 g2 g3 => ?_)
  exact K H1 locs1 _ ls (h1.set h3 hq (zi_ne M a _ _) (by show M.1 a ≠ 0; rw [hk]; omega) (by rw [zE_bool (M := zi M a i.toNatClampNeg (vp_nar .boolean v)) hk, zUpd_i]; rfl)) g1 g2 g3 h5 h6 h7
theorem z_aldO (O : zOK G X cc nL own ret nm) {a t : Nat} {C : String} {i : Int32} {v : Value} (ht : (ztys G.2.2)[2 + t]? = some (G.2.2 (2 + t), .object C)) (hd : decode cc pc = .ok (.aaload, 1)) (hk : M.1 a = 102 + t) (hi : vp_in i (M.2.1 a)) (hv : va_rf (M.2.2.2 a i.toNatClampNeg) = v) (K : zW G X nL M n k (pc + 1) lv (v :: st)) : zW G X nL M n k pc lv (.int i :: .ref a :: st) := by
  intro H locs ws ls h1 h2 h3 h4 h5 h6 h7
  obtain ⟨q, hq⟩ := h1.1 a (by rw [hk]; omega)
  rw [zE_ref hk] at hq
  subst hv
  exact va_aldq O.1 O.2.1 O.2.2.2.2.2.2.1.1 h2 q (2 + t) hq ht hi hd (K H locs ws ls h1 h2 h3 h4 h5 h6 h7)
theorem z_ald (O : zOK G X cc nL own ret nm) {a t b : Nat} {C : String} {i : Int32} (ht : (ztys G.2.2)[2 + t]? = some (G.2.2 (2 + t), .object C)) (hd : decode cc pc = .ok (.aaload, 1)) (hk : M.1 a = 102 + t) (hi : vp_in i (M.2.1 a)) (hv : M.2.2.2 a i.toNatClampNeg = some b) (K : zW G X nL M n k (pc + 1) lv (.ref b :: st)) : zW G X nL M n k pc lv (.int i :: .ref a :: st) := z_aldO O ht hd hk hi (by rw [hv]; rfl) K
theorem z_ast (O : zOK G X cc nL own ret nm) {a t v ci N : Nat} {C : String} {T : u_T} {i : Int32} (ht : (ztys G.2.2)[2 + t]? = some (G.2.2 (2 + t), .object C)) (hc : vwCl[ci]? = some (C, T, N)) (hci : ci + 1 < 100) (hd : decode cc pc = .ok (.aastore, 1)) (hk : M.1 a = 102 + t) (hkv : M.1 v = ci + 1) (hi : vp_in i (M.2.1 a)) (K : zW G X nL (zr M a i.toNatClampNeg (some v)) n k (pc + 1) lv st) : zW G X nL M n k pc lv (.ref v :: .int i :: .ref a :: st) := by
  intro H locs ws ls h1 h2 h3 h4 h5 h6 h7
  obtain ⟨q, hq⟩ := h1.1 a (by rw [hk]; omega)
  obtain ⟨qv, hqv⟩ := h1.1 v (by rw [hkv]; omega)
  rw [zE_ref hk] at hq
  rw [zE_obj hkv hci] at hqv
  refine va_astq O.1 O.2.1 O.2.2.2.2.2.2.1.1 h2 h3 h4 q (2 + t) qv ci hq ht hqv hc hi hd (fun H1 locs1 g1 g2 g3 => ?_)
  exact K H1 locs1 _ ls (h1.set h3 hq (zr_ne M a _ _) (by show M.1 a ≠ 0; rw [hk]; omega) (by rw [zE_ref (M := zr M a i.toNatClampNeg (some v)) hk, zUpd_r]; rfl)) g1 g2 g3 h5 h6 h7
theorem z_aleni (O : zOK G X cc nL own ret nm) {a : Nat} (hd : decode cc pc = .ok (.arraylength, 1)) (hk : M.1 a = 100) (K : zW G X nL M n k (pc + 1) lv (.int (Int32.ofNat (M.2.1 a)) :: st)) : zW G X nL M n k pc lv (.ref a :: st) := by
  intro H locs ws ls h1 h2 h3 h4 h5 h6 h7
  obtain ⟨q, hq⟩ := h1.1 a (by rw [hk]; omega)
  rw [zE_int hk] at hq
  exact va_alen O.1 O.2.1 O.2.2.2.2.2.2.1.1 h2 q 0 hq rfl rfl hd (K H locs ws ls h1 h2 h3 h4 h5 h6 h7)
theorem z_alenr (O : zOK G X cc nL own ret nm) {a t : Nat} {C : String} (ht : (ztys G.2.2)[2 + t]? = some (G.2.2 (2 + t), .object C)) (hd : decode cc pc = .ok (.arraylength, 1)) (hk : M.1 a = 102 + t) (K : zW G X nL M n k (pc + 1) lv (.int (Int32.ofNat (M.2.1 a)) :: st)) : zW G X nL M n k pc lv (.ref a :: st) := by
  intro H locs ws ls h1 h2 h3 h4 h5 h6 h7
  obtain ⟨q, hq⟩ := h1.1 a (by rw [hk]; omega)
  rw [zE_ref hk] at hq
  exact va_alen O.1 O.2.1 O.2.2.2.2.2.2.1.1 h2 q (2 + t) hq ht rfl hd (K H locs ws ls h1 h2 h3 h4 h5 h6 h7)
/-- a new object -/
def zNew (own : String) (index ci N : Nat) : Prop := ∃ (C : String) (T : u_T) (ty : Nat → FieldType), vwCl[ci]? = some (C, T, N) ∧ (∀ w ∈ u_ws C T N, w ∈ zT) ∧ (∀ i, i < N → parseFieldDescriptor (T i).2.2.1 = some (ty i)) ∧ Cond.classLink own index C ∈ zT ∧ Cond.instantiable C N ∈ zT ∧ Cond.initialized C ∈ zT ∧ (∀ j, j < N → defaultValue (ty j) = vp_V (zF (zlay ci) 0 (fun _ => 0) (fun _ => none)) j) ∧ ci + 1 < 100
theorem z_new (O : zOK G X cc nL own ret nm) {index ci N : Nat} (F : zNew own index ci N) (hd : decode cc pc = .ok (.new index, 3)) (hn : n + 1 ≤ X.R.cells) (hk : k + N ≤ X.R.slots) (K : ∀ q : Nat, M.1 q = 0 → zW G X nL (zn M q (ci + 1) 0) (n + 1) (k + N) (pc + 3) lv (.ref q :: st)) : zW G X nL M n k pc lv st := by
  intro H locs ws ls h1 h2 h3 h4 h5 h6 h7
  obtain ⟨C, T, ty, c1, c2, c3, c4, c5, c6, c7, c8⟩ := F
  refine va_new O.1 O.2.1 O.2.2.2.2.2.1 c2 ty c3 O.2.2.2.2.1 (O.2.2.2.2.2.1 _ c4) (O.2.2.2.2.2.1 _ c5) (O.2.2.2.2.2.1 _ c6) O.2.2.2.2.2.2.1.1 h2 h3 h4 O.2.2.2.2.2.2.2.2.2 c1 c7 hn hk hd (fun q H1 g1 g2 g3 => ?_)
  have hf := h1.fresh g2
  exact K q hf H1 locs _ ls (h1.push hf (zn_ne M q _ _) (by simp [zn]) (by rw [zE_obj (M := zn M q (ci + 1) 0) (by simp [zn]) c8]; simp [zn])) g1 g2 g3 h5 hn hk
/-- a new array of ints, of booleans, of references -/
theorem z_newi (O : zOK G X cc nL own ret nm) {i : Int32} {N : Nat} (hw : Cond.arrayClass .int ∈ zT) (hd : decode cc pc = .ok (.newarray .int, 2)) (hi : ¬ i < 0) (hN : i.toNatClampNeg = N) (hb : N ≤ 100000000) (hn : n + 1 ≤ X.R.cells) (hk : k + N ≤ X.R.slots) (K : ∀ q : Nat, M.1 q = 0 → zW G X nL (zn M q 100 N) (n + 1) (k + N) (pc + 2) lv (.ref q :: st)) : zW G X nL M n k pc lv (.int i :: st) := by
  intro H locs ws ls h1 h2 h3 h4 h5 h6 h7
  refine va_newa (atype := .int) (ty := .int) (a0 := (N, .inl (fun _ => 0))) O.1 O.2.1 (O.2.2.2.2.2.1 _ hw) rfl O.2.2.2.2.2.2.1.1 h2 h3 h4 O.2.2.2.2.2.2.2.2.2 (fun cA => vp_cell_i ..) hi hN (by show N * 4 ≤ _; omega) hn hk hd (fun q cA H1 g0 g1 g2 g3 => ?_)
  have e : cA = G.2.2 0 := by
    have e1 := (g0.2 13 (cA, .int) rfl).2
    have e2 := (O.2.2.2.2.2.2.1.1.2 0 (G.2.2 0, .int) rfl).2
    exact Option.some.inj (Eq.trans (Eq.symm e1) e2)
  subst e
  have hf := h1.fresh g2
  exact K q hf H1 locs _ ls (h1.push hf (zn_ne M q _ _) (by simp [zn]) (by rw [zE_int (M := zn M q 100 N) (by simp [zn])]; simp [zn])) g1 g2 g3 h5 hn hk
theorem z_newz (O : zOK G X cc nL own ret nm) {i : Int32} {N : Nat} (hw : Cond.arrayClass .boolean ∈ zT) (hd : decode cc pc = .ok (.newarray .boolean, 2)) (hi : ¬ i < 0) (hN : i.toNatClampNeg = N) (hb : N ≤ 100000000) (hn : n + 1 ≤ X.R.cells) (hk : k + N ≤ X.R.slots) (K : ∀ q : Nat, M.1 q = 0 → zW G X nL (zn M q 101 N) (n + 1) (k + N) (pc + 2) lv (.ref q :: st)) : zW G X nL M n k pc lv (.int i :: st) := by
  intro H locs ws ls h1 h2 h3 h4 h5 h6 h7
  refine va_newa (atype := .boolean) (ty := .boolean) (a0 := (N, .inl (fun _ => 0))) O.1 O.2.1 (O.2.2.2.2.2.1 _ hw) rfl O.2.2.2.2.2.2.1.1 h2 h3 h4 O.2.2.2.2.2.2.2.2.2 (fun cA => vp_cell_i ..) hi hN (by show N * 1 ≤ _; omega) hn hk hd (fun q cA H1 g0 g1 g2 g3 => ?_)
  have e : cA = G.2.2 1 := by
    have e1 := (g0.2 13 (cA, .boolean) rfl).2
    have e2 := (O.2.2.2.2.2.2.1.1.2 1 (G.2.2 1, .boolean) rfl).2
    exact Option.some.inj (Eq.trans (Eq.symm e1) e2)
  subst e
  have hf := h1.fresh g2
  exact K q hf H1 locs _ ls (h1.push hf (zn_ne M q _ _) (by simp [zn]) (by rw [zE_bool (M := zn M q 101 N) (by simp [zn])]; simp [zn])) g1 g2 g3 h5 hn hk
theorem z_newr (O : zOK G X cc nL own ret nm) {index t N : Nat} {i : Int32} {C : String} (ht : (ztys G.2.2)[2 + t]? = some (G.2.2 (2 + t), .object C)) (hw : Cond.classLink own index C ∈ zT) (ho : C ∈ zAO) (hd : decode cc pc = .ok (.anewarray index, 3)) (hi : ¬ i < 0) (hN : i.toNatClampNeg = N) (hb : N ≤ 100000000) (hn : n + 1 ≤ X.R.cells) (hk : k + N ≤ X.R.slots) (K : ∀ q : Nat, M.1 q = 0 → zW G X nL (zn M q (102 + t) N) (n + 1) (k + N) (pc + 3) lv (.ref q :: st)) : zW G X nL M n k pc lv (.int i :: st) := by
  intro H locs ws ls h1 h2 h3 h4 h5 h6 h7
  refine va_newq O.1 O.2.1 O.2.2.2.2.1 (O.2.2.2.2.2.1 _ hw) (O.2.2.2.2.2.2.1.2.1 C ho) O.2.2.2.2.2.2.1.1 h2 h3 h4 O.2.2.2.2.2.2.2.2.2 hi hN (by omega) hn hk hd (fun q cA H1 g0 g1 g2 g3 => ?_)
  have e : cA = G.2.2 (2 + t) := by
    obtain ⟨_, _, _, _, _, e1⟩ := (g0.2 13 (cA, .object C) rfl).2
    obtain ⟨_, _, _, _, _, e2⟩ := (O.2.2.2.2.2.2.1.1.2 (2 + t) (G.2.2 (2 + t), .object C) ht).2
    exact Option.some.inj (Eq.trans (Eq.symm e1) e2)
  subst e
  have hf := h1.fresh g2
  exact K q hf H1 locs _ ls (h1.push hf (zn_ne M q _ _) (by simp [zn]) (by rw [zE_ref (M := zn M q (102 + t) N) (t := t) (by simp [zn])]; simp [zn])) g1 g2 g3 h5 hn hk
end ZMEM
end
section
/-! ===== calls, returns, contracts ===== -/
section ZCALL
variable {G : zG} {X : zX} {cc : ByteArray} {nL : Nat} {own : String} {ret : Option FieldType} {nm : String} {M : zM} {n k pc : Nat} {lv : List (Nat × Value)} {st : List Value}
theorem zA_in {A : Nat → Prop} {cA : Nat → ClassId} {ws : va_W} {H0 H : Heap} {locs : List Loc} (h1 : zRep cA M ws) (h3 : va_D A ws) (h4 : va_S A H0 H locs) (hA : ∀ q : Nat, H0.size ≤ q → A q) : ∀ q, zA M H.size q → A q := by
  intro q h
  rcases h with h | h
  · obtain ⟨j, hj⟩ := h1.1 q h
    exact h3.2 j _ hj
  · exact hA q (Nat.le_trans h4.1 h)
/-- behind a call -/
theorem z_back (O : zOK G X cc nL own ret nm) {mc ms : Nat} {a : Array Value} {st0 : List Value} {post : zM → Option Value → Prop} {H : Heap} {locs : List Loc} {ws : va_W} {ls : Array Slot} (h1 : zRep G.2.2 M ws) (h3 : va_D X.A ws) (h4 : va_S X.A X.s.heap H locs) (h5 : lv_has ls nL lv)
    (hr : va_Run X.p G.1 X.e X.R X.s X.m X.a X.b X.h X.c H locs n k mc ms (F0 X.m pc ls st0) st (zQ G (zA M H.size) post a) (zA M H.size)) (hn : n + mc ≤ X.R.cells) (hk : k + ms ≤ X.R.slots)
    (K : ∀ (M' : zM) (v : Option Value), post M' v → zW G X nL M' (n + mc) (k + ms) (pc + 3) lv (v.toList ++ st)) : W X.p G.1 X.e X.R X.s X.m X.a X.b X.h X.c H locs n k (MQ X.b (zQ G X.A X.q) X.a X.s X.R.cells X.R.slots X.A) (F0 X.m pc ls st0) := by
  have hA := zA_in h1 h3 h4 O.2.2.2.2.2.2.2.2.2
  intro T hT Xs
  obtain ⟨v, st₀, t, T', L, h0, X', hL, e1, e2, ⟨⟨M', v', ws', hv, hp, hr', hP', hV', hD'⟩, hz, hkk⟩, stp⟩ := hr T hT Xs
  cases hv
  rw [h0] at hz hkk
  obtain ⟨t2, a1, b1⟩ := K M' v hp T'.heap (locs ++ L) ws' ls hr' (by rw [e1]; exact hP') (hD'.weaken (fun _ q _ h => hA q.1 h))
    ⟨Nat.le_trans h4.1 (by rw [e1]; exact hz), fun q g1 g2 => by rw [e1, hkk q (Nat.lt_of_lt_of_le g1 h4.1) (fun z => g2 (hA q z))]; exact h4.2.1 q g1 g2, fun q hq => by
      rcases List.mem_append.mp hq with h | h
      · exact h4.2.2 q h
      · exact hA _ (hL q h)⟩ h5 hn hk T' rfl X'
  exact ⟨t2, stp t2 a1, b1⟩
/-- what the tables say of a call of y by the pool's entry index of class own -/
def zCV (own : String) (index ci : Nat) (y : MethodName) (cy : ByteArray) (maxL : Nat) (ry : Option FieldType) (np : Nat) : Prop := ∃ (C : String) (T : u_T) (N : Nat), vwCl[ci]? = some (C, T, N) ∧ Cond.methodLink own index y ∈ zT ∧ Cond.instanceMethod y ∈ zT ∧ Cond.selects C y y ∈ zT ∧ Cond.initialized C ∈ zT ∧ Cond.code y cy maxL ry ∈ zT ∧ ci + 1 < 100 ∧ y.cls = C ∧ y.cls ≠ "java/lang/invoke/MethodHandle" ∧ y.cls ≠ "java/lang/invoke/VarHandle" ∧ (parseMethodDescriptor y.desc).map (fun d => d.parameters.length) = some np
def zCS (own : String) (index : Nat) (y : MethodName) (cy : ByteArray) (maxL : Nat) (ry : Option FieldType) (np : Nat) : Prop := Cond.methodLink own index y ∈ zT ∧ Cond.static y ∈ zT ∧ Cond.initialized y.cls ∈ zT ∧ Cond.code y cy maxL ry ∈ zT ∧ y.cls ≠ "java/lang/invoke/MethodHandle" ∧ y.cls ≠ "java/lang/invoke/VarHandle" ∧ (parseMethodDescriptor y.desc).map (fun d => d.parameters.length) = some np
def zCSN (own : String) (index : Nat) (y : MethodName) (cy : ByteArray) (maxL : Nat) (ry : Option FieldType) (np : Nat) : Prop := (∃ host : String, Cond.methodLinkNest own index y host ∈ zNW) ∧ Cond.static y ∈ zT ∧ Cond.initialized y.cls ∈ zT ∧ Cond.code y cy maxL ry ∈ zT ∧ y.cls ≠ "java/lang/invoke/MethodHandle" ∧ y.cls ≠ "java/lang/invoke/VarHandle" ∧ (parseMethodDescriptor y.desc).map (fun d => d.parameters.length) = some np
def zCI (own : String) (index : Nat) (y : MethodName) (cy : ByteArray) (maxL np : Nat) : Prop := Cond.methodLink own index y ∈ zT ∧ Cond.instanceMethod y ∈ zT ∧ Cond.initialized y.cls ∈ zT ∧ Cond.code y cy maxL none ∈ zT ∧ y.name = "<init>" ∧ y.cls ≠ "java/lang/invoke/MethodHandle" ∧ y.cls ≠ "java/lang/invoke/VarHandle" ∧ (parseMethodDescriptor y.desc).map (fun d => d.parameters.length) = some np
def zCIN (own : String) (index : Nat) (y : MethodName) (cy : ByteArray) (maxL np : Nat) : Prop := (∃ host : String, Cond.methodLinkNest own index y host ∈ zNW) ∧ Cond.instanceMethod y ∈ zT ∧ Cond.initialized y.cls ∈ zT ∧ Cond.code y cy maxL none ∈ zT ∧ y.name = "<init>" ∧ y.cls ≠ "java/lang/invoke/MethodHandle" ∧ y.cls ≠ "java/lang/invoke/VarHandle" ∧ (parseMethodDescriptor y.desc).map (fun d => d.parameters.length) = some np
variable {index np maxL ci b : Nat} {y : MethodName} {cy : ByteArray} {ry : Option FieldType} {rm : Room} {As : List Value} {post : zM → Option Value → Prop}
/-- room for the callee -/
def zRm (X : zX) (rm : Room) (maxL : Nat) : Prop := rm.frames + 1 ≤ X.R.frames ∧ 8 + (maxL + 11) + rm.locals ≤ X.R.locals
theorem z_callV (O : zOK G X cc nL own ret nm) (L : zCV own index ci y cy maxL ry np) (hM : zC G y cy maxL ry rm M (.ref b :: As) post) (hk : M.1 b = ci + 1) (hn : As.length = np) (hR : zRm X rm maxL) (hst : (st.map fun v => v.category).sum ≤ 8) (hd : decode cc pc = .ok (.invokevirtual index, 3)) (g1 : n + rm.cells ≤ X.R.cells) (g2 : k + rm.slots ≤ X.R.slots) {st0 : List Value} (hs : st0 = As.reverse ++ .ref b :: st)
    (K : ∀ (M' : zM) (v : Option Value), post M' v → zW G X nL M' (n + rm.cells) (k + rm.slots) (pc + 3) lv (v.toList ++ st)) : zW G X nL M n k pc lv st0 := by
  intro H locs ws ls h1 h2 h3 h4 h5 h6 h7
  obtain ⟨C, T, N, c1, c2, c3, c4, c5, c6, c7, c8, c9, c10, c11⟩ := L
  obtain ⟨q, hq⟩ := h1.1 b (by rw [hk]; omega)
  rw [zE_obj hk c7] at hq
  have hts := O.2.2.2.2.2.1
  refine z_back O h1 h3 h4 h5 (va_runV (Ts := zT) (own := own) (n := np) ⟨O.1, O.2.1, O.2.2.2.1, O.2.2.2.2.1, hts⟩ (hM H.size) (C := C) (maxL := maxL) (bytes := cy) (ret := ry) ⟨callB_of np hts (zT_good (fun _ h => h) c6) rfl rfl rfl (by rw [c8]; exact hts _ c5) (hts _ c2) ⟨c9, c10, c11⟩ hR, hts _ c3, hts _ c4⟩ ⟨zP_blind, va_recv O.2.2.2.2.2.2.1.1 h2 c1 hq, fun U hU hW => ⟨rfl, by rw [hU], O.2.2.2.2.2.2.1.moved hW, ws, h1, by rw [hU]; exact h2, h3.weaken (fun _ _ _ _ => trivial)⟩⟩ rfl hn h5.1 hs (lv_room hst) hd ⟨g1, g2⟩) g1 g2 K
theorem z_callS (O : zOK G X cc nL own ret nm) (L : zCS own index y cy maxL ry np) (hM : zC G y cy maxL ry rm M As post) (hn : As.length = np) (hR : zRm X rm maxL) (hst : (st.map fun v => v.category).sum ≤ 8) (hd : decode cc pc = .ok (.invokestatic index, 3)) (g1 : n + rm.cells ≤ X.R.cells) (g2 : k + rm.slots ≤ X.R.slots) {st0 : List Value} (hs : st0 = As.reverse ++ st)
    (K : ∀ (M' : zM) (v : Option Value), post M' v → zW G X nL M' (n + rm.cells) (k + rm.slots) (pc + 3) lv (v.toList ++ st)) : zW G X nL M n k pc lv st0 := by
  intro H locs ws ls h1 h2 h3 h4 h5 h6 h7
  obtain ⟨c2, c3, c5, c6, c9, c10, c11⟩ := L
  have hts := O.2.2.2.2.2.1
  refine z_back O h1 h3 h4 h5 (va_runS (Ts := zT) (own := own) (n := np) ⟨O.1, O.2.1, O.2.2.2.1, O.2.2.2.2.1, hts⟩ (hM H.size) (maxL := maxL) (bytes := cy) (ret := ry) ⟨callB_of np hts (zT_good (fun _ h => h) c6) rfl rfl rfl (hts _ c5) (hts _ c2) ⟨c9, c10, c11⟩ hR, hts _ c3⟩ ⟨zP_blind, fun U hU hW => ⟨rfl, by rw [hU], O.2.2.2.2.2.2.1.moved hW, ws, h1, by rw [hU]; exact h2, h3.weaken (fun _ _ _ _ => trivial)⟩⟩ rfl hn h5.1 hs (lv_room hst) hd ⟨g1, g2⟩) g1 g2 K
theorem z_callSN (O : zOK G X cc nL own ret nm) (L : zCSN own index y cy maxL ry np) (hM : zC G y cy maxL ry rm M As post) (hn : As.length = np) (hR : zRm X rm maxL) (hst : (st.map fun v => v.category).sum ≤ 8) (hd : decode cc pc = .ok (.invokestatic index, 3)) (g1 : n + rm.cells ≤ X.R.cells) (g2 : k + rm.slots ≤ X.R.slots) {st0 : List Value} (hs : st0 = As.reverse ++ st)
    (K : ∀ (M' : zM) (v : Option Value), post M' v → zW G X nL M' (n + rm.cells) (k + rm.slots) (pc + 3) lv (v.toList ++ st)) : zW G X nL M n k pc lv st0 := by
  intro H locs ws ls h1 h2 h3 h4 h5 h6 h7
  obtain ⟨⟨host, c2⟩, c3, c5, c6, c9, c10, c11⟩ := L
  have hts := O.2.2.2.2.2.1
  refine z_back O h1 h3 h4 h5 (va_runSN (Ts := zT) (own := own) (n := np) ⟨O.1, O.2.1, O.2.2.2.1, O.2.2.2.2.1, hts⟩ (hM H.size) (maxL := maxL) (bytes := cy) (ret := ry) (host := host) ⟨va_cnB np hts (zT_good (fun _ h => h) c6) rfl rfl rfl (O.2.2.2.2.2.2.1.2.2.1 _ c2) (hts _ c5) ⟨c9, c10, c11⟩ hR, hts _ c3, trivial⟩ ⟨zP_blind, fun U hU hW => ⟨rfl, by rw [hU], O.2.2.2.2.2.2.1.moved hW, ws, h1, by rw [hU]; exact h2, h3.weaken (fun _ _ _ _ => trivial)⟩⟩ rfl hn h5.1 hs (lv_room hst) hd ⟨g1, g2⟩) g1 g2 K
theorem z_callI (O : zOK G X cc nL own ret nm) (L : zCI own index y cy maxL np) (hM : zC G y cy maxL none rm M (.ref b :: As) post) (hn : As.length = np) (hR : zRm X rm maxL) (hst : (st.map fun v => v.category).sum ≤ 8) (hd : decode cc pc = .ok (.invokespecial index, 3)) (g1 : n + rm.cells ≤ X.R.cells) (g2 : k + rm.slots ≤ X.R.slots) {st0 : List Value} (hs : st0 = As.reverse ++ .ref b :: st)
    (K : ∀ (M' : zM) (v : Option Value), post M' v → zW G X nL M' (n + rm.cells) (k + rm.slots) (pc + 3) lv (v.toList ++ st)) : zW G X nL M n k pc lv st0 := by
  intro H locs ws ls h1 h2 h3 h4 h5 h6 h7
  obtain ⟨c2, c3, c5, c6, c8, c9, c10, c11⟩ := L
  have hts := O.2.2.2.2.2.1
  refine z_back O h1 h3 h4 h5 (va_runI (Ts := zT) (own := own) (n := np) ⟨O.1, O.2.1, O.2.2.2.1, O.2.2.2.2.1, hts⟩ (hM H.size) (maxL := maxL) (bytes := cy) ⟨callB_of np hts (zT_good (fun _ h => h) c6) rfl rfl rfl (hts _ c5) (hts _ c2) ⟨c9, c10, c11⟩ hR, c8, hts _ c3⟩ ⟨zP_blind, fun U hU hW => ⟨rfl, by rw [hU], O.2.2.2.2.2.2.1.moved hW, ws, h1, by rw [hU]; exact h2, h3.weaken (fun _ _ _ _ => trivial)⟩⟩ rfl hn h5.1 hs (lv_room hst) hd ⟨g1, g2⟩) g1 g2 K
theorem z_callIN (O : zOK G X cc nL own ret nm) (L : zCIN own index y cy maxL np) (hM : zC G y cy maxL none rm M (.ref b :: As) post) (hn : As.length = np) (hR : zRm X rm maxL) (hst : (st.map fun v => v.category).sum ≤ 8) (hd : decode cc pc = .ok (.invokespecial index, 3)) (g1 : n + rm.cells ≤ X.R.cells) (g2 : k + rm.slots ≤ X.R.slots) {st0 : List Value} (hs : st0 = As.reverse ++ .ref b :: st)
    (K : ∀ (M' : zM) (v : Option Value), post M' v → zW G X nL M' (n + rm.cells) (k + rm.slots) (pc + 3) lv (v.toList ++ st)) : zW G X nL M n k pc lv st0 := by
  intro H locs ws ls h1 h2 h3 h4 h5 h6 h7
  obtain ⟨⟨host, c2⟩, c3, c5, c6, c8, c9, c10, c11⟩ := L
  have hts := O.2.2.2.2.2.1
  refine z_back O h1 h3 h4 h5 (va_runIN (Ts := zT) (own := own) (n := np) ⟨O.1, O.2.1, O.2.2.2.1, O.2.2.2.2.1, hts⟩ (hM H.size) (maxL := maxL) (bytes := cy) (host := host) ⟨va_cnB np hts (zT_good (fun _ h => h) c6) rfl rfl rfl (O.2.2.2.2.2.2.1.2.2.1 _ c2) (hts _ c5) ⟨c9, c10, c11⟩ hR, c8, hts _ c3⟩ ⟨zP_blind, fun U hU hW => ⟨rfl, by rw [hU], O.2.2.2.2.2.2.1.moved hW, ws, h1, by rw [hU]; exact h2, h3.weaken (fun _ _ _ _ => trivial)⟩⟩ rfl hn h5.1 hs (lv_room hst) hd ⟨g1, g2⟩) g1 g2 K
/-- Object's own constructor -/
theorem z_obj (O : zOK G X cc nL own ret nm) {a : Nat} (h1w : Cond.methodLink own index objectInit ∈ zT) (h2w : Cond.instanceMethod objectInit ∈ zT) (h3w : Cond.code objectInit ⟨#[0xb1]⟩ 1 none ∈ zT) (hd : decode cc pc = .ok (.invokespecial index, 3)) (hf : 1 ≤ X.R.frames) (hl : (st.map fun v => v.category).sum + 12 ≤ X.R.locals) (K : zW G X nL M n k (pc + 3) lv st) : zW G X nL M n k pc lv (.ref a :: st) := by
  intro H locs ws ls h1 h2 h3 h4 h5 h6 h7
  have hts := O.2.2.2.2.2.1
  exact W.objInit O.1 O.2.1 O.2.2.2.2.1 (hts _ h1w) (hts _ h2w) (hts _ h3w) rfl (h5.1.trans O.2.2.2.1.symm) rfl hd hf (by show 2 * 0 + _ + 12 ≤ _; omega) (K H locs ws ls h1 h2 h3 h4 h5 h6 h7)
theorem z_end (O : zOK G X cc nL own ret nm) {H : Heap} {locs : List Loc} {ws : va_W} (v : Option Value) (h1 : zRep G.2.2 M ws) (h2 : va_P G.2.1 vwCl ws H) (h3 : va_D X.A ws) (h4 : va_S X.A X.s.heap H locs) (hq : X.q M v) (t : State) (ht : t.heap = H) (hW : X.s.WarmedH t.vm) : zQ G X.A X.q X.a X.s (.returned v) t := ⟨⟨M, v, ws, rfl, hq, h1, by rw [ht]; exact h2, O.2.2.2.2.2.2.1.moved hW, h3⟩, h4.F ht⟩
theorem z_iret (O : zOK G X cc nL own (some .int) nm) {v : Int32} (hd : decode cc pc = .ok (.ireturn, 1)) (hq : X.q M (some (.int v))) : zW G X nL M n k pc lv [.int v] := fun H locs ws ls h1 h2 h3 h4 h5 h6 h7 => W.widen h6 h7 (W.iret O.1 O.2.1 O.2.2.1 (fun t ht hW => z_end O _ h1 h2 h3 h4 hq t ht hW) h4.2.2 hd (hlocks := O.2.2.2.2.2.2.2.1))
theorem z_zret (O : zOK G X cc nL own (some .boolean) nm) {v : Int32} (hd : decode cc pc = .ok (.ireturn, 1)) (hv : v = 0 ∨ v = 1) (hq : X.q M (some (.int v))) : zW G X nL M n k pc lv [.int v] := fun H locs ws ls h1 h2 h3 h4 h5 h6 h7 => W.widen h6 h7 (W.zret O.1 O.2.1 O.2.2.1 (by rcases hv with rfl | rfl <;> rfl) (fun t ht hW => z_end O _ h1 h2 h3 h4 hq t ht hW) h4.2.2 hd (hlocks := O.2.2.2.2.2.2.2.1))
theorem z_lret (O : zOK G X cc nL own (some .long) nm) {v : Int64} (hd : decode cc pc = .ok (.lreturn, 1)) (hq : X.q M (some (.long v))) : zW G X nL M n k pc lv [.long v] := fun H locs ws ls h1 h2 h3 h4 h5 h6 h7 => W.widen h6 h7 (W.lret O.1 O.2.1 O.2.2.1 (fun t ht hW => z_end O _ h1 h2 h3 h4 hq t ht hW) h4.2.2 hd (hlocks := O.2.2.2.2.2.2.2.1))
theorem z_vret (O : zOK G X cc nL own none nm) (hd : decode cc pc = .ok (.return_, 1)) (hq : X.q M none) : zW G X nL M n k pc lv [] := fun H locs ws ls h1 h2 h3 h4 h5 h6 h7 => W.widen h6 h7 (W.vret O.1 O.2.1 O.2.2.1 (fun t ht hW => z_end O _ h1 h2 h3 h4 hq t ht hW) h4.2.2 hd (hlocks := O.2.2.2.2.2.2.2.1))
theorem zrf_or (r : Option Nat) : va_rf r = .null ∨ ∃ a, va_rf r = .ref a := by
  cases r with
  | none => exact Or.inl rfl
  | some a => exact Or.inr ⟨a, rfl⟩
theorem z_aretO {C : String} (O : zOK G X cc nL own (some (.object C)) nm) (r : Option Nat) (hd : decode cc pc = .ok (.areturn, 1)) (hq : X.q M (some (va_rf r))) : zW G X nL M n k pc lv [va_rf r] := fun H locs ws ls h1 h2 h3 h4 h5 h6 h7 => W.widen h6 h7 (W.aret O.1 O.2.1 O.2.2.1 (Or.inl ⟨_, rfl⟩) (zrf_or r) (fun t ht hW => z_end O _ h1 h2 h3 h4 hq t ht hW) h4.2.2 hd (hlocks := O.2.2.2.2.2.2.2.1))
theorem z_aret {C : String} (O : zOK G X cc nL own (some (.object C)) nm) {a : Nat} (hd : decode cc pc = .ok (.areturn, 1)) (hq : X.q M (some (.ref a))) : zW G X nL M n k pc lv [.ref a] := z_aretO O (some a) hd hq
theorem z_aretN {C : String} (O : zOK G X cc nL own (some (.object C)) nm) (hd : decode cc pc = .ok (.areturn, 1)) (hq : X.q M (some .null)) : zW G X nL M n k pc lv [.null] := z_aretO O none hd hq
/-- a contract out of the walk from the method's entry -/
theorem z_intro {av : List Value} (hy : plainName y.cls = true) (hav : (lg_sl av).length ≤ maxL) (body : ∀ X : zX, zOK G X cy maxL y.cls ry y.name → X.R = rm → X.q = post → zW G X maxL M 0 0 0 (lv_args 0 av) []) : zC G y cy maxL ry rm M av post := by
  intro sz
  refine Met.ofW (cc := cy) (maxL := maxL) (ret := ry) hy rfl ?_
  intro p e s m args below meth c s₁ B hml hv
  obtain ⟨rfl, hsz, hV, ws, hr, hP, hD⟩ := hv
  have hts := atoms_spec B.pre
  subst hsz
  rw [lg_entry_eq]
  have hA : ∀ q : Nat, s.heap.size ≤ q → zA M s.heap.size q := fun q h => Or.inr h
  refine body (p, e, rm, s, m, av.toArray, below, meth, c, zA M s.heap.size, post) ⟨B.exec, B.bytes, B.returns, hml, findClass_of_methodNamed B.named, fun w hw => hts w (List.mem_cons_of_mem _ hw), hV, B.notSynchronized, (name_of_methodNamed B.named B.method).1, hA⟩ rfl rfl s.heap [] ws _ hr hP ⟨hD.1, fun j q hq => Or.inl (hr.2 j q hq).1⟩ va_S.rf (lv_entry av hav) (Nat.zero_le _) (Nat.zero_le _)
/-- a contract may promise less -/
theorem zC.weak {av : List Value} {post' : zM → Option Value → Prop} (h : zC G y cy maxL ry rm M av post) (hp : ∀ M' v, post M' v → post' M' v) : zC G y cy maxL ry rm M av post' := by
  intro sz
  have h1 := h sz
  intro p e ha hc hk s m args below hf happ hP hK
  obtain ⟨j, o, g1, g2, g3, ⟨⟨⟨M', v, ws, q1, q2, q3⟩, q4⟩, g5⟩⟩ := h1 p e ha hc hk s m args below hf happ hP hK
  exact ⟨j, o, g1, g2, g3, ⟨⟨M', v, ws, q1, hp _ _ q2, q3⟩, q4⟩, g5⟩
end ZCALL
end
section
/-! ===== new int[N][K] ===== -/
/-- the outer row when i of its places are filled -/
def zo (cA : ClassId) (N h i : Nat) : Cell := arrV cA N (fun j => va_rf (if j < i then some (h + 1 + j) else none))
theorem zo_next (cA : ClassId) (N h i : Nat) : (zo cA N h i).setSlot i (.ref (h + 1 + i)) = zo cA N h (i + 1) := by
  unfold zo
  rw [arrV_store]
  refine congrArg (arrV cA N) (funext fun j => ?_)
  by_cases e : j = i
  · subst e
    simp [updV, va_rf]
  · by_cases hj : j < i
    · simp [updV, e, hj, show j < i + 1 by omega]
    · simp [updV, e, hj, show ¬ j < i + 1 by omega]
/-- the state when i inner rows are made -/
def zfl (cA comp : ClassId) (N K : Nat) (U : State) : Nat → State
  | 0 => U.pushCell (zo cA N U.heap.size 0)
  | i + 1 => ((zfl cA comp N K U i).pushCell (arrV comp K (fun _ => .int 0))).setCell U.heap.size (zo cA N U.heap.size (i + 1))
theorem zfl_facts (cA comp : ClassId) (N K : Nat) (U : State) : ∀ i : Nat, (zfl cA comp N K U i).heap.size = U.heap.size + 1 + i ∧ (zfl cA comp N K U i).heap[U.heap.size]? = some (zo cA N U.heap.size i) ∧ (zfl cA comp N K U i).vm = U.vm ∧ (zfl cA comp N K U i).slotsUsed = U.slotsUsed + N + i * K ∧ (∀ q : Nat, q < U.heap.size → (zfl cA comp N K U i).heap[q]? = U.heap[q]?) ∧ ∀ j : Nat, j < i → (zfl cA comp N K U i).heap[U.heap.size + 1 + j]? = some (arrV comp K (fun _ => .int 0))
  | 0 => by
    refine ⟨by simp [zfl, State.pushCell], by simp [zfl, State.pushCell], rfl, by simp [zfl, zo, arrV, State.pushCell], fun q hq => State.heap_pushCell_of_lt _ _ hq, fun j hj => absurd hj (Nat.not_lt_zero _)⟩
  | i + 1 => by
    obtain ⟨f1, f2, f3, f4, f5, f6⟩ := zfl_facts cA comp N K U i
    have hlt : U.heap.size < (zfl cA comp N K U i).heap.size := by omega
    have hb : ((zfl cA comp N K U i).pushCell (arrV comp K (fun _ => .int 0))).heap[U.heap.size]? = some (zo cA N U.heap.size i) := by rw [State.heap_pushCell_of_lt (h := hlt)]; exact f2
    refine ⟨?_, State.heap_setCell_self hb, f3, ?_, fun q hq => ?_, fun j hj => ?_⟩
    · simp [zfl, State.setCell, State.pushCell, f1]; omega
    · have e : (zfl cA comp N K U (i + 1)).slotsUsed = (zfl cA comp N K U i).slotsUsed + K := by simp [zfl, State.setCell, State.pushCell, arrV]
      rw [e, f4, Nat.succ_mul]; omega
    · show (((zfl cA comp N K U i).pushCell _).setCell U.heap.size _).heap[q]? = _
      have hq2 : q < (zfl cA comp N K U i).heap.size := by omega
      rw [State.heap_setCell_other (show U.heap.size ≠ q by omega), State.heap_pushCell_of_lt (h := hq2)]
      exact f5 q hq
    · show (((zfl cA comp N K U i).pushCell _).setCell U.heap.size _).heap[U.heap.size + 1 + j]? = _
      rw [State.heap_setCell_other (show U.heap.size ≠ U.heap.size + 1 + j by omega)]
      rcases Nat.lt_or_ge j i with hj2 | hj2
      · have hq2 : U.heap.size + 1 + j < (zfl cA comp N K U i).heap.size := by omega
        rw [State.heap_pushCell_of_lt (h := hq2)]
        exact f6 j hj2
      · have e : U.heap.size + 1 + j = (zfl cA comp N K U i).heap.size := by omega
        rw [e]
        exact State.heap_pushCell_size _ _
theorem zfl_top (cA comp : ClassId) (N K : Nat) (U : State) (f : JFrame) : ∀ i : Nat, zfl cA comp N K (U.setTop f) i = (zfl cA comp N K U i).setTop f
  | 0 => rfl
  | i + 1 => by simp only [zfl, zfl_top cA comp N K U f i, State.heap_setTop, State.pushCell_setTop, State.setCell_setTop]
section ZMULTI
variable {p : Program} {l : Launch} {e : Env} {R : Room} {s : State} {m : MethodId} {args : Array Value} {below : List Frame} {meth : Method} {c : Code} {T : State} {locs : List Loc} {cells slots : Nat}
theorem zfl_stand (X : Stand p l e R s m args below meth c T locs cells slots) (cA comp : ClassId) (N K : Nat) : ∀ i : Nat, Stand p l e R s m args below meth c (zfl cA comp N K T i) (locs ++ (List.range i).map fun j => (⟨T.heap.size, j⟩ : Loc)) (cells + 1 + i) (slots + N + i * K)
  | 0 => by
    have h := X.pushed (zo cA N T.heap.size 0)
    have e1 : (zo cA N T.heap.size 0).slots.size = N := by simp [zo, arrV]
    rw [e1] at h
    simpa [zfl] using h
  | i + 1 => by
    have Xi := zfl_stand X cA comp N K i
    obtain ⟨f1, f2, -⟩ := zfl_facts cA comp N K T i
    have hq2 : T.heap.size < (zfl cA comp N K T i).heap.size := by omega
    have hb : ((zfl cA comp N K T i).pushCell (arrV comp K (fun _ => .int 0))).heap[T.heap.size]? = some (zo cA N T.heap.size i) := by rw [State.heap_pushCell_of_lt (h := hq2)]; exact f2
    have h := (Xi.pushed (arrV comp K (fun _ => .int 0))).stored hb i (.ref (T.heap.size + 1 + i))
    have e1 : (arrV comp K (fun _ => Value.int 0)).slots.size = K := by simp [arrV]
    rw [e1, zo_next] at h
    have e2 : (locs ++ (List.range (i + 1)).map fun j => (⟨T.heap.size, j⟩ : Loc)) = (locs ++ (List.range i).map fun j => (⟨T.heap.size, j⟩ : Loc)) ++ [⟨T.heap.size, i⟩] := by simp [List.range_succ]
    have e3 : slots + N + (i + 1) * K = slots + N + i * K + K := by rw [Nat.succ_mul]; omega
    rw [e2, e3]
    exact h
end ZMULTI
theorem zrep_arr (c : ClassId) (N : Nat) (v : Value) : ({ cls := c, slots := Array.replicate N v } : Cell) = arrV c N (fun _ => v) := by rw [← arrV_new]
section ZMAKE
variable {E : CtlPost} {e : Env} {d : Bool} {acts : List Action} {s : State}
/-- what 'make' does: N rows of K ints -/
theorem zmake {cA comp cc : ClassId} {kA kC : Class} {n k : Int32} {N K : Nat} (hA : s.vm.classes[cA]? = some kA) (hkA : kA.kind = .array comp (.array .int)) (hC : s.vm.classes[comp]? = some kC) (hkC : kC.kind = .array cc .int) (hn : ¬ n < 0) (hk : ¬ k < 0) (hN : n.toNatClampNeg = N) (hK : k.toNatClampNeg = K)
    (l1 : ¬ N > e.platform.arrayLengthLimit) (l2 : ¬ N * 4 > e.platform.maxHeapBytes) (l3 : ¬ K > e.platform.arrayLengthLimit) (l4 : ¬ K * 4 > e.platform.maxHeapBytes) (r1 : s.heap.size + 1 + N ≤ e.platform.maxCells) (r2 : s.slotsUsed + N + N * K ≤ e.platform.maxSlots)
    {Q : Addr → Pre} (hq : ∀ d' acts', Q s.heap.size d' acts' (zfl cA comp N K s N)) : wp (Op.multianewarray.make cA [n, k]) Q E e d acts s := by
  subst hN
  subst hK
  have hfind : ([k].find? (· < 0)) = none := by simp [hk]
  rw [Op.multianewarray.make]
  simp only [wp_bind', W.ite, hn, if_false, wp_pure', W.theClass, hA, hkA, Option.some.injEq, exists_eq_left']
  refine W.newArray_of hA hkA l1 l2 (by omega) (by have := Nat.zero_le (n.toNatClampNeg * k.toNatClampNeg); omega) rfl (fun acts' => ?_)
  simp only [hfind]
  rw [ite_self, wp_bind', Std.Legacy.Range.forIn_eq_forIn_range']
  have hsz : ([:n.toNatClampNeg] : Std.Legacy.Range).size = n.toNatClampNeg := by simp [Std.Legacy.Range.size]
  rw [hsz]
  show wp (forIn (List.range' 0 n.toNatClampNeg 1) PUnit.unit _) _ E e d acts' _
  refine wp_forIn_inv (fun rest u => ∃ i, i + rest.length = n.toNatClampNeg ∧ rest = List.range' i rest.length ∧ u = zfl cA comp n.toNatClampNeg k.toNatClampNeg s i) _ _ ⟨0, by simp, by simp, ?_⟩ ?_ ?_
  · show s.pushCell _ = s.pushCell _
    rw [zrep_arr]
    simp [zo, va_rf]
  · rintro x rest u d' acts' Q' ⟨i, hi, hl, rfl⟩ hnext
    simp only [List.length_cons] at hi hl
    rw [List.range'_succ] at hl
    obtain ⟨rfl, hrest⟩ : x = i ∧ rest = List.range' (i + 1) rest.length := ⟨(List.cons.inj hl).1, (List.cons.inj hl).2⟩
    obtain ⟨f1, f2, f3, f4, -, -⟩ := zfl_facts cA comp n.toNatClampNeg k.toNatClampNeg s x
    have hmul : x * k.toNatClampNeg + k.toNatClampNeg ≤ n.toNatClampNeg * k.toNatClampNeg := by
      have := Nat.mul_le_mul_right k.toNatClampNeg (show x + 1 ≤ n.toNatClampNeg by omega)
      rw [Nat.succ_mul] at this
      exact this
    simp only [wp_bind']
    rw [Op.multianewarray.make]
    simp only [wp_bind', W.ite, hk, if_false, wp_pure', W.theClass, f3, hC, hkC, Option.some.injEq, exists_eq_left']
    refine W.newArray_of (by rw [f3]; exact hC) hkC l3 l4 (by omega) (by rw [f4]; omega) rfl (fun acts2 => ?_)
    simp only [wp_bind', W.writeLoc, wp_pure']
    have hq2 : s.heap.size < (zfl cA comp n.toNatClampNeg k.toNatClampNeg s x).heap.size := by omega
    have hb : ((zfl cA comp n.toNatClampNeg k.toNatClampNeg s x).pushCell ({ cls := comp, slots := Array.replicate k.toNatClampNeg (defaultValue .int) } : Cell)).heap[s.heap.size]? = some (zo cA n.toNatClampNeg s.heap.size x) := by rw [State.heap_pushCell_of_lt (h := hq2)]; exact f2
    refine ⟨zo cA n.toNatClampNeg s.heap.size x, hb, by simp [zo, arrV], by simp [zo, arrV]; omega, ?_, hnext _ _ _ ⟨x + 1, by omega, hrest, ?_⟩⟩
    · simp [zo, arrV, State.fitsSlot, State.slotType?, f3, hA, hkA, fits]
    · rw [f1, zo_next, zrep_arr]
      rfl
  · rintro u d' acts' ⟨i, hi, -, rfl⟩
    simp only [List.length_nil, Nat.add_zero] at hi
    subst hi
    simp only [wp_pure']
    exact hq _ _
end ZMAKE
section ZMULTIW
variable {p : Program} {l : Launch} {e : Env} {R : Room} {s : State} {m : MethodId} {args : Array Value} {below : List Frame} {meth : Method} {c : Code} {H : Heap} {locs : List Loc} {cells slots : Nat} {Q : State → Prop}
theorem zWmulti {cc : ByteArray} (hexec : p.tables.exec = Jvm.exec) (hb : c.code = cc) {own : String} {index : Nat} (hown : s.vm.findClass own = some m.cls) (hclink : (Cond.classLink own index "[[I").before args s = true) {cA comp cy : ClassId} {kA kC : Class} (hA : s.vm.classes[cA]? = some kA) (hkA : kA.kind = .array comp (.array .int)) (hfA : s.vm.findClass "[[I" = some cA) (hC : s.vm.classes[comp]? = some kC) (hkC : kC.kind = .array cy .int)
    {pc N K : Nat} {ls : Array Slot} {n k : Int32} {rest : List Value} (hdg : decode cc pc = .ok (.multianewarray index 2, 4)) (hn : ¬ n < 0) (hk : ¬ k < 0) (hN : n.toNatClampNeg = N) (hK : k.toNatClampNeg = K) (bN : N ≤ 100000000) (bK : K ≤ 100000000) (hcells : cells + (1 + N) ≤ R.cells) (hslots : slots + (N + N * K) ≤ R.slots)
    (kk : ∀ H' : Heap, H'.size = H.size + 1 + N → H'[H.size]? = some (zo cA N H.size N) → (∀ j : Nat, j < N → H'[H.size + 1 + j]? = some (arrV comp K (fun _ => .int 0))) → (∀ q : Nat, q < H.size → H'[q]? = H[q]?) →
      W p l e R s m args below meth c H' (locs ++ (List.range N).map fun j => (⟨H.size, j⟩ : Loc)) (cells + 1 + N) (slots + N + N * K) Q (F0 m (pc + 4) ls (.ref H.size :: rest))) : W p l e R s m args below meth c H locs cells slots Q (F0 m pc ls (.int k :: .int n :: rest)) := by
  intro T hT X
  subst hT
  subst hb
  have hpl : e.platform.magicAccessors = ({} : Platform).magicAccessors := by rw [X.admits.platform]
  obtain ⟨c0, hf0, hcl⟩ := Cond.classLink_spec hown hclink e.platform hpl
  cases hfA.symm.trans hf0
  obtain ⟨hg₁, hwarm₁, hready₁⟩ := State.classEntry (e := e) X.warmed hcl
  generalize T.vm.noted m.cls index (.cls cA) = vm₁ at hg₁ hwarm₁ hready₁
  have hal : s.vm.Alike vm₁ := hwarm₁.alike
  obtain ⟨kA₁, hA₁, eA⟩ := hal.2.2 _ _ hA
  obtain ⟨kC₁, hC₁, eC⟩ := hal.2.2 _ _ hC
  have X₁ := X.noted hwarm₁
  have XF := zfl_stand X₁ cA comp N K N
  obtain ⟨f1, f2, f3, f4, f5, f6⟩ := zfl_facts cA comp N K (T.setVm vm₁) N
  obtain ⟨r1, r2⟩ := X.roomAbove hcells hslots
  obtain ⟨t, a1, b1⟩ := kk (zfl cA comp N K (T.setVm vm₁) N).heap f1 f2 f6 f5 (zfl cA comp N K (T.setVm vm₁) N) rfl XF
  refine ⟨t, ?_, b1⟩
  jvm_step X.here [hexec, hdg]
  simp only [Op.multianewarray.sem, wp_bind', W.resolveClassAt_links (State.method?_setTop (F0 m pc ls (.int k :: .int n :: rest)) X.here.top) hg₁]
  rw [W.popN, if_neg (by decide)]
  refine ⟨F0 m pc ls (.int k :: .int n :: rest), State.topJava?_setTop' (s := T.setVm vm₁) _ X.here.top, [.int n, .int k], rest, rfl, rfl, ?_⟩
  simp only [List.mapM_cons, List.mapM_nil, wp_bind', wp_pure']
  have eS : ((T.setTop (F0 m pc ls (.int k :: .int n :: rest))).setVm vm₁).setTop (F0 m pc ls rest) = (T.setVm vm₁).setTop (F0 m pc ls rest) := by
    show ((T.setVm vm₁).setTop _).setTop _ = _
    rw [State.setTop_setTop]
  refine zmake (kA := kA₁) (kC := kC₁) (comp := comp) (cc := cy) (N := N) (K := K) hA₁ (by rw [eA]; exact hkA) hC₁ (by rw [eC]; exact hkC) hn hk hN hK (by rw [Launch.admits_arrayLengthLimit X.admits]; omega) (by rw [Launch.admits_maxHeapBytes X.admits]; omega) (by rw [Launch.admits_arrayLengthLimit X.admits]; omega) (by rw [Launch.admits_maxHeapBytes X.admits]; omega) (by show T.heap.size + 1 + _ ≤ _; omega) (by show T.slotsUsed + _ + _ ≤ _; omega) (fun d' acts' => ?_)
  rw [eS, zfl_top]
  simp only [wp_bind', W.mark, W.pushRef, State.topJava?_setTop' _ XF.here.top, Option.some.injEq, exists_eq_left', State.setTop_setTop, State.heap_setTop]
  intro acts
  simp [jvm, XF.here.top]
  exact a1
end ZMULTIW
end
section
/-! ===== rows that the printed blocks use besides ===== -/
theorem zT_lay {C : String} {T : u_T} {N : Nat} (ps : List Nat) (h : (List.range N).map (u_lay C T) = ps.filterMap (fun i => tables_1[i]?)) (g : ((List.range N).map (u_lay C T)).all goodWord = true) : ∀ w ∈ u_ws C T N, w ∈ zT := by
  intro w hw
  have hg := List.all_eq_true.mp g w hw
  have hw2 : w ∈ ps.filterMap (fun i => tables_1[i]?) := by rw [← h]; exact hw
  obtain ⟨i, -, hi⟩ := List.mem_filterMap.mp hw2
  exact zT_tab i hi hg
theorem zsw (x : Int32) (lo hi : Int) (h0 : 0 ≤ lo) : (x.toInt < lo ∨ hi < x.toInt) ∨ ∃ j : Nat, (j : Int) ≤ hi - lo ∧ x.toInt = lo + (j : Int) := by
  by_cases h1 : x.toInt < lo
  · exact Or.inl (Or.inl h1)
  · by_cases h2 : hi < x.toInt
    · exact Or.inl (Or.inr h2)
    · exact Or.inr ⟨(x.toInt - lo).toNat, by omega, by omega⟩
theorem zcas (j q : Nat) : j = q ∨ j ≠ q := by omega
section ZMORE
variable {G : zG} {X : zX} {cc : ByteArray} {nL : Nat} {own : String} {ret : Option FieldType} {nm : String} {M : zM} {n k pc : Nat} {lv : List (Nat × Value)} {st : List Value}
theorem z_topi {x : Int32} (K : ∀ y : Int32, y = x → zW G X nL M n k pc lv (.int y :: st)) : zW G X nL M n k pc lv (.int x :: st) := K x rfl
theorem z_topl {x : Int64} (K : ∀ y : Int64, y = x → zW G X nL M n k pc lv (.long y :: st)) : zW G X nL M n k pc lv (.long x :: st) := K x rfl
theorem zRm_of {rm R0 : Room} {maxL : Nat} (h : X.R = R0) (h1 : rm.frames + 1 ≤ R0.frames) (h2 : 8 + (maxL + 11) + rm.locals ≤ R0.locals) : zRm X rm maxL := by
  unfold zRm
  rw [h]
  exact ⟨h1, h2⟩
theorem z_have (K : n ≤ X.R.cells → k ≤ X.R.slots → zW G X nL M n k pc lv st) : zW G X nL M n k pc lv st := fun H locs ws ls h1 h2 h3 h4 h5 h6 h7 => K h6 h7 H locs ws ls h1 h2 h3 h4 h5 h6 h7
variable {index np maxL ci b : Nat} {y : MethodName} {cy : ByteArray} {ry : Option FieldType} {rm : Room} {As : List Value} {post : zM → Option Value → Prop}
theorem z_callV0 (O : zOK G X cc nL own ret nm) (L : zCV own index ci y cy maxL ry np) (hM : zC G y cy maxL ry rm M (.ref b :: As) post) (hk : M.1 b = ci + 1) (hn : As.length = np) (hR : zRm X rm maxL) (hst : (st.map fun v => v.category).sum ≤ 8) (hd : decode cc pc = .ok (.invokevirtual index, 3)) (hc : rm.cells = 0) (hs : rm.slots = 0) {st0 : List Value} (hs0 : st0 = As.reverse ++ .ref b :: st) (K : ∀ (M' : zM) (v : Option Value), post M' v → zW G X nL M' n k (pc + 3) lv (v.toList ++ st)) : zW G X nL M n k pc lv st0 := z_have fun h6 h7 => z_callV O L hM hk hn hR hst hd (by rw [hc]; exact h6) (by rw [hs]; exact h7) hs0 (fun M' v h => by rw [hc, hs]; exact K M' v h)
theorem z_callVk (O : zOK G X cc nL own ret nm) (L : zCV own index ci y cy maxL ry np) (hM : zC G y cy maxL ry rm M (.ref b :: As) post) (hk : M.1 b = ci + 1) (hn : As.length = np) (hR : zRm X rm maxL) (hst : (st.map fun v => v.category).sum ≤ 8) (hd : decode cc pc = .ok (.invokevirtual index, 3)) {mc ms : Nat} (hc : rm.cells = mc) (hs : rm.slots = ms) (g1 : n + mc ≤ X.R.cells) (g2 : k + ms ≤ X.R.slots) {st0 : List Value} (hs0 : st0 = As.reverse ++ .ref b :: st) (K : ∀ (M' : zM) (v : Option Value), post M' v → zW G X nL M' (n + mc) (k + ms) (pc + 3) lv (v.toList ++ st)) : zW G X nL M n k pc lv st0 := by
  subst hc
  subst hs
  exact z_callV O L hM hk hn hR hst hd g1 g2 hs0 K
theorem z_callS0 (O : zOK G X cc nL own ret nm) (L : zCS own index y cy maxL ry np) (hM : zC G y cy maxL ry rm M As post) (hn : As.length = np) (hR : zRm X rm maxL) (hst : (st.map fun v => v.category).sum ≤ 8) (hd : decode cc pc = .ok (.invokestatic index, 3)) (hc : rm.cells = 0) (hs : rm.slots = 0) {st0 : List Value} (hs0 : st0 = As.reverse ++ st) (K : ∀ (M' : zM) (v : Option Value), post M' v → zW G X nL M' n k (pc + 3) lv (v.toList ++ st)) : zW G X nL M n k pc lv st0 := z_have fun h6 h7 => z_callS O L hM hn hR hst hd (by rw [hc]; exact h6) (by rw [hs]; exact h7) hs0 (fun M' v h => by rw [hc, hs]; exact K M' v h)
theorem z_callSk (O : zOK G X cc nL own ret nm) (L : zCS own index y cy maxL ry np) (hM : zC G y cy maxL ry rm M As post) (hn : As.length = np) (hR : zRm X rm maxL) (hst : (st.map fun v => v.category).sum ≤ 8) (hd : decode cc pc = .ok (.invokestatic index, 3)) {mc ms : Nat} (hc : rm.cells = mc) (hs : rm.slots = ms) (g1 : n + mc ≤ X.R.cells) (g2 : k + ms ≤ X.R.slots) {st0 : List Value} (hs0 : st0 = As.reverse ++ st) (K : ∀ (M' : zM) (v : Option Value), post M' v → zW G X nL M' (n + mc) (k + ms) (pc + 3) lv (v.toList ++ st)) : zW G X nL M n k pc lv st0 := by
  subst hc
  subst hs
  exact z_callS O L hM hn hR hst hd g1 g2 hs0 K
theorem z_callSN0 (O : zOK G X cc nL own ret nm) (L : zCSN own index y cy maxL ry np) (hM : zC G y cy maxL ry rm M As post) (hn : As.length = np) (hR : zRm X rm maxL) (hst : (st.map fun v => v.category).sum ≤ 8) (hd : decode cc pc = .ok (.invokestatic index, 3)) (hc : rm.cells = 0) (hs : rm.slots = 0) {st0 : List Value} (hs0 : st0 = As.reverse ++ st) (K : ∀ (M' : zM) (v : Option Value), post M' v → zW G X nL M' n k (pc + 3) lv (v.toList ++ st)) : zW G X nL M n k pc lv st0 := z_have fun h6 h7 => z_callSN O L hM hn hR hst hd (by rw [hc]; exact h6) (by rw [hs]; exact h7) hs0 (fun M' v h => by rw [hc, hs]; exact K M' v h)
theorem z_callSNk (O : zOK G X cc nL own ret nm) (L : zCSN own index y cy maxL ry np) (hM : zC G y cy maxL ry rm M As post) (hn : As.length = np) (hR : zRm X rm maxL) (hst : (st.map fun v => v.category).sum ≤ 8) (hd : decode cc pc = .ok (.invokestatic index, 3)) {mc ms : Nat} (hc : rm.cells = mc) (hs : rm.slots = ms) (g1 : n + mc ≤ X.R.cells) (g2 : k + ms ≤ X.R.slots) {st0 : List Value} (hs0 : st0 = As.reverse ++ st) (K : ∀ (M' : zM) (v : Option Value), post M' v → zW G X nL M' (n + mc) (k + ms) (pc + 3) lv (v.toList ++ st)) : zW G X nL M n k pc lv st0 := by
  subst hc
  subst hs
  exact z_callSN O L hM hn hR hst hd g1 g2 hs0 K
theorem z_callI0 (O : zOK G X cc nL own ret nm) (L : zCI own index y cy maxL np) (hM : zC G y cy maxL none rm M (.ref b :: As) post) (hn : As.length = np) (hR : zRm X rm maxL) (hst : (st.map fun v => v.category).sum ≤ 8) (hd : decode cc pc = .ok (.invokespecial index, 3)) (hc : rm.cells = 0) (hs : rm.slots = 0) {st0 : List Value} (hs0 : st0 = As.reverse ++ .ref b :: st) (K : ∀ (M' : zM) (v : Option Value), post M' v → zW G X nL M' n k (pc + 3) lv (v.toList ++ st)) : zW G X nL M n k pc lv st0 := z_have fun h6 h7 => z_callI O L hM hn hR hst hd (by rw [hc]; exact h6) (by rw [hs]; exact h7) hs0 (fun M' v h => by rw [hc, hs]; exact K M' v h)
theorem z_callIk (O : zOK G X cc nL own ret nm) (L : zCI own index y cy maxL np) (hM : zC G y cy maxL none rm M (.ref b :: As) post) (hn : As.length = np) (hR : zRm X rm maxL) (hst : (st.map fun v => v.category).sum ≤ 8) (hd : decode cc pc = .ok (.invokespecial index, 3)) {mc ms : Nat} (hc : rm.cells = mc) (hs : rm.slots = ms) (g1 : n + mc ≤ X.R.cells) (g2 : k + ms ≤ X.R.slots) {st0 : List Value} (hs0 : st0 = As.reverse ++ .ref b :: st) (K : ∀ (M' : zM) (v : Option Value), post M' v → zW G X nL M' (n + mc) (k + ms) (pc + 3) lv (v.toList ++ st)) : zW G X nL M n k pc lv st0 := by
  subst hc
  subst hs
  exact z_callI O L hM hn hR hst hd g1 g2 hs0 K
theorem z_callIN0 (O : zOK G X cc nL own ret nm) (L : zCIN own index y cy maxL np) (hM : zC G y cy maxL none rm M (.ref b :: As) post) (hn : As.length = np) (hR : zRm X rm maxL) (hst : (st.map fun v => v.category).sum ≤ 8) (hd : decode cc pc = .ok (.invokespecial index, 3)) (hc : rm.cells = 0) (hs : rm.slots = 0) {st0 : List Value} (hs0 : st0 = As.reverse ++ .ref b :: st) (K : ∀ (M' : zM) (v : Option Value), post M' v → zW G X nL M' n k (pc + 3) lv (v.toList ++ st)) : zW G X nL M n k pc lv st0 := z_have fun h6 h7 => z_callIN O L hM hn hR hst hd (by rw [hc]; exact h6) (by rw [hs]; exact h7) hs0 (fun M' v h => by rw [hc, hs]; exact K M' v h)
theorem z_callINk (O : zOK G X cc nL own ret nm) (L : zCIN own index y cy maxL np) (hM : zC G y cy maxL none rm M (.ref b :: As) post) (hn : As.length = np) (hR : zRm X rm maxL) (hst : (st.map fun v => v.category).sum ≤ 8) (hd : decode cc pc = .ok (.invokespecial index, 3)) {mc ms : Nat} (hc : rm.cells = mc) (hs : rm.slots = ms) (g1 : n + mc ≤ X.R.cells) (g2 : k + ms ≤ X.R.slots) {st0 : List Value} (hs0 : st0 = As.reverse ++ .ref b :: st) (K : ∀ (M' : zM) (v : Option Value), post M' v → zW G X nL M' (n + mc) (k + ms) (pc + 3) lv (v.toList ++ st)) : zW G X nL M n k pc lv st0 := by
  subst hc
  subst hs
  exact z_callIN O L hM hn hR hst hd g1 g2 hs0 K
/-- int[N][K]: the row of rows at q, the rows behind it -/
def znn (M : zM) (q N K : Nat) : zM := (fun x => if x = q then 112 else if q < x ∧ x ≤ q + N then 100 else M.1 x, fun x => if x = q then N else if q < x ∧ x ≤ q + N then K else M.2.1 x, fun x j => if q ≤ x ∧ x ≤ q + N then 0 else M.2.2.1 x j, fun x j => if x = q then (if j < N then some (q + 1 + j) else none) else if q < x ∧ x ≤ q + N then none else M.2.2.2 x j)
theorem znn_out {cA : Nat → ClassId} {q N K x : Nat} (h : ¬ (q ≤ x ∧ x ≤ q + N)) : (znn M q N K).1 x = M.1 x ∧ zE' cA (znn M q N K) x = zE' cA M x := by
  have h1 : ¬ x = q := by omega
  have h2 : ¬ (q < x ∧ x ≤ q + N) := by omega
  simp only [znn, zE', h, h1, h2, if_false, and_self]
theorem z_multi (O : zOK G X cc nL own ret nm) {i0 i1 : Int32} {N K : Nat} (hw : Cond.classLink own index "[[I" ∈ zT) (hd : decode cc pc = .ok (.multianewarray index 2, 4)) (hn : ¬ i0 < 0) (hk : ¬ i1 < 0) (hN : i0.toNatClampNeg = N) (hK : i1.toNatClampNeg = K) (bN : N ≤ 100000000) (bK : K ≤ 100000000) {c1 c2 : Nat} (g1 : n + c1 ≤ X.R.cells) (g2 : k + c2 ≤ X.R.slots) (e1 : c1 = 1 + N) (e2 : c2 = N + N * K)
    (KK : ∀ q : Nat, (∀ j, j ≤ N → M.1 (q + j) = 0) → zW G X nL (znn M q N K) (n + c1) (k + c2) (pc + 4) lv (.ref q :: st)) : zW G X nL M n k pc lv (.int i1 :: .int i0 :: st) := by
  subst e1
  subst e2
  intro H locs ws ls h1 h2 h3 h4 h5 h6 h7
  have hV := O.2.2.2.2.2.2.1
  obtain ⟨kA, hA, hkA⟩ := hV.2.2.2
  have hfA : X.s.vm.findClass "[[I" = some (G.2.2 12) := (hV.1.2 12 (G.2.2 12, .array .int) rfl).2
  obtain ⟨-, kC, hC, cy, hkC⟩ := (hV.1.2 0 (G.2.2 0, .int) rfl).1 0 (fun _ => .int 0)
  refine zWmulti O.1 O.2.1 O.2.2.2.2.1 (O.2.2.2.2.2.1 _ hw) hA hkA hfA hC hkC hd hn hk hN hK bN bK g1 g2 (fun H' s1 s2 s3 s4 => ?_)
  have hlt : ∀ (j : Nat) (q : Nat × va_E), ws[j]? = some q → q.1 < H.size := fun j q hq => (h2 j q hq).lt
  have hfr : ∀ x, H.size ≤ x → M.1 x = 0 := fun x hx => by
    rcases Nat.eq_zero_or_pos (M.1 x) with h0 | h0
    · exact h0
    · obtain ⟨j, hj⟩ := h1.1 x (by omega)
      have := hlt j _ hj
      simp only at this
      omega
  have hin : ∀ x, M.1 x ≠ 0 → x < H.size := fun x hx => by
    rcases Nat.lt_or_ge x H.size with h | h
    · exact h
    · exact absurd (hfr x h) hx
  have key := KK H.size (fun j _ => hfr _ (by omega)) H' (locs ++ (List.range N).map fun j => (⟨H.size, j⟩ : Loc)) (ws ++ ((H.size, zE' G.2.2 (znn M H.size N K) H.size) :: (List.range N).map (fun j => (H.size + 1 + j, zE' G.2.2 (znn M H.size N K) (H.size + 1 + j))))) ls
  have hget : ∀ (j : Nat) (q : Nat × va_E), (ws ++ ((H.size, zE' G.2.2 (znn M H.size N K) H.size) :: (List.range N).map (fun j => (H.size + 1 + j, zE' G.2.2 (znn M H.size N K) (H.size + 1 + j)))))[j]? = some q → (j < ws.length ∧ ws[j]? = some q) ∨ (ws.length ≤ j ∧ j ≤ ws.length + N ∧ q.1 = H.size + (j - ws.length) ∧ q.2 = zE' G.2.2 (znn M H.size N K) q.1) := by
    intro j q hj
    by_cases hl : j < ws.length
    · rw [List.getElem?_append_left hl] at hj
      exact Or.inl ⟨hl, hj⟩
    · rw [List.getElem?_append_right (by omega)] at hj
      right
      cases hz : j - ws.length with
      | zero =>
        rw [hz] at hj
        cases hj
        exact ⟨by omega, by omega, by omega, rfl⟩
      | succ z =>
        rw [hz, List.getElem?_cons_succ, List.getElem?_map] at hj
        by_cases hzN : z < N
        · rw [List.getElem?_range hzN] at hj
          cases hj
          exact ⟨by omega, by omega, by show H.size + 1 + z = _; omega, rfl⟩
        · rw [List.getElem?_eq_none (by rw [List.length_range]; omega)] at hj
          cases hj
  have hrep : zRep G.2.2 (znn M H.size N K) (ws ++ ((H.size, zE' G.2.2 (znn M H.size N K) H.size) :: (List.range N).map (fun j => (H.size + 1 + j, zE' G.2.2 (znn M H.size N K) (H.size + 1 + j))))) := by
    refine ⟨fun x hx => ?_, fun j q hj => ?_⟩
    · by_cases hr : H.size ≤ x ∧ x ≤ H.size + N
      · refine ⟨ws.length + (x - H.size), ?_⟩
        rw [List.getElem?_append_right (by omega), show ws.length + (x - H.size) - ws.length = x - H.size by omega]
        cases hz : x - H.size with
        | zero => rw [show x = H.size by omega]; rfl
        | succ z =>
          rw [List.getElem?_cons_succ, List.getElem?_map, List.getElem?_range (by omega), show x = H.size + 1 + z by omega]
          rfl
      · obtain ⟨g1, g2⟩ := znn_out (M := M) (cA := G.2.2) (K := K) hr
        obtain ⟨j, hj⟩ := h1.1 x (by rw [← g1]; exact hx)
        exact ⟨j, by rw [List.getElem?_append_left (List.getElem?_eq_some_iff.mp hj).1, hj, g2]⟩
    · rcases hget j q hj with ⟨-, hj⟩ | ⟨a1, a2, a3, a4⟩
      · have := hlt j q hj
        obtain ⟨g1, g2⟩ := znn_out (M := M) (cA := G.2.2) (K := K) (x := q.1) (q := H.size) (N := N) (by omega)
        obtain ⟨g3, g4⟩ := h1.2 j q hj
        exact ⟨by rw [g1]; exact g3, by rw [g2]; exact g4⟩
      · refine ⟨?_, a4⟩
        by_cases hq : q.1 = H.size
        · simp [znn, hq]
        · have : H.size < q.1 ∧ q.1 ≤ H.size + N := by omega
          simp [znn, hq, this]
  rw [show n + 1 + N = n + (1 + N) by omega, show k + N + N * K = k + (N + N * K) by omega]
  refine key hrep ?_ ?_ ?_ h5 (by omega) (by omega)
  · intro j q hj
    rcases hget j q hj with ⟨-, hj⟩ | ⟨a1, a2, a3, a4⟩
    · exact (h2 j q hj).kept (s4 q.1 (hlt j q hj))
    · obtain ⟨qa, qe⟩ := q
      simp only at a3 a4
      subst a4
      by_cases hq : qa = H.size
      · subst hq
        rw [zE_ref (M := znn M H.size N K) (t := 10) (by simp [znn])]
        show H'[H.size]? = some (vp_cell _ _)
        rw [vp_cell_q, s2]
        simp [zo, znn]
      · have hr : H.size < qa ∧ qa ≤ H.size + N := by omega
        rw [zE_int (M := znn M H.size N K) (by simp [znn, hq, hr])]
        show H'[qa]? = some (vp_cell _ _)
        have := s3 (qa - H.size - 1) (by omega)
        rw [show H.size + 1 + (qa - H.size - 1) = qa by omega] at this
        rw [vp_cell_i, this]
        have hr2 : H.size ≤ qa := by omega
        simp [znn, hq, hr, hr2]
  · refine ⟨fun i j a b hi hj hab => ?_, fun j q hj => ?_⟩
    · rcases hget i a hi with ⟨-, hi⟩ | ⟨a1, a2, a3, -⟩ <;> rcases hget j b hj with ⟨-, hj⟩ | ⟨b1, b2, b3, -⟩
      · exact h3.1 i j a b hi hj hab
      · have := hlt i a hi; omega
      · have := hlt j b hj; omega
      · omega
    · rcases hget j q hj with ⟨-, hj⟩ | ⟨a1, a2, a3, -⟩
      · exact h3.2 j q hj
      · exact O.2.2.2.2.2.2.2.2.2 _ (by have := h4.1; omega)
  · refine ⟨by have := h4.1; omega, fun q g1 g2 => by rw [s4 q (by have := h4.1; omega)]; exact h4.2.1 q g1 g2, fun q hq => ?_⟩
    rcases List.mem_append.mp hq with h | h
    · exact h4.2.2 q h
    · obtain ⟨z, -, hz⟩ := List.mem_map.mp h
      rw [← hz]
      exact O.2.2.2.2.2.2.2.2.2 _ h4.1
/-- a row out of int[][] -/
theorem z_aldA (O : zOK G X cc nL own ret nm) {a b : Nat} {i : Int32} (hd : decode cc pc = .ok (.aaload, 1)) (hk : M.1 a = 112) (hi : vp_in i (M.2.1 a)) (hv : M.2.2.2 a i.toNatClampNeg = some b) (K : zW G X nL M n k (pc + 1) lv (.ref b :: st)) : zW G X nL M n k pc lv (.int i :: .ref a :: st) := by
  intro H locs ws ls h1 h2 h3 h4 h5 h6 h7
  obtain ⟨q, hq⟩ := h1.1 a (by rw [hk]; omega)
  rw [zE_ref (t := 10) hk] at hq
  have hlt : i.toNatClampNeg < M.2.1 a := Nat.not_le.mp fun q => hi (Or.inr q)
  exact W.aald (v := .ref b) (ty := .array .int) O.1 O.2.1 (h2 q _ hq) ((O.2.2.2.2.2.2.1.1.2 12 (G.2.2 12, .array .int) rfl).1 (M.2.1 a) (fun j => va_rf (M.2.2.2 a j))) rfl (fun q => by cases q) (by show ¬ (i < 0 ∨ (arrV _ _ _).slots.size ≤ _); rw [arrV_size]; exact hi) (by show (arrV _ _ _).slots[_]? = _; rw [arrV_read _ _ hlt, hv]; rfl) rfl rfl hd (K H locs ws ls h1 h2 h3 h4 h5 h6 h7)
end ZMORE
end
