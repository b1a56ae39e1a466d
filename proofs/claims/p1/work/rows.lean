section
-- ===== PART A: goes FIRST, ahead of the names: the tables' words, and 'selects' of the private methods out of them =====
/-- a private method of a class that the tables say can be made, by its rows of tables_1 -/
def lw_okq (q : MethodName × Nat) : Prop := (q.1.cls ≠ "java/lang/invoke/MethodHandle" ∧ q.1.cls ≠ "java/lang/invoke/VarHandle") ∧ Cond.instantiable q.1.cls q.2 ∈ tables_1 ∧ Cond.privateMethod q.1 ∈ tables_1 ∧ Cond.instanceMethod q.1 ∈ tables_1
theorem lw_p0 : lw_okq (⟨"HouseWires", "lineOfNumber", "(I)I"⟩, 15) := ⟨⟨by decide +kernel, by decide +kernel⟩, List.mem_of_getElem? (i := 25) (by decide +kernel), List.mem_of_getElem? (i := 182) (by decide +kernel), List.mem_of_getElem? (i := 183) (by decide +kernel)⟩
theorem lw_p1 : lw_okq (⟨"HouseWires", "lineAt", "(I)LHouseWires$Line;"⟩, 15) := ⟨⟨by decide +kernel, by decide +kernel⟩, List.mem_of_getElem? (i := 25) (by decide +kernel), List.mem_of_getElem? (i := 244) (by decide +kernel), List.mem_of_getElem? (i := 245) (by decide +kernel)⟩
theorem lw_p2 : lw_okq (⟨"HouseWires", "hasDeviceOf", "(I)Z"⟩, 15) := ⟨⟨by decide +kernel, by decide +kernel⟩, List.mem_of_getElem? (i := 25) (by decide +kernel), List.mem_of_getElem? (i := 248) (by decide +kernel), List.mem_of_getElem? (i := 249) (by decide +kernel)⟩
theorem lw_p3 : lw_okq (⟨"HouseWires", "joinLines", "(IIII)V"⟩, 15) := ⟨⟨by decide +kernel, by decide +kernel⟩, List.mem_of_getElem? (i := 25) (by decide +kernel), List.mem_of_getElem? (i := 417) (by decide +kernel), List.mem_of_getElem? (i := 418) (by decide +kernel)⟩
theorem lw_p4 : lw_okq (⟨"HouseWires$Port", "leadsTo", "(I)Z"⟩, 5) := ⟨⟨by decide +kernel, by decide +kernel⟩, List.mem_of_getElem? (i := 399) (by decide +kernel), List.mem_of_getElem? (i := 425) (by decide +kernel), List.mem_of_getElem? (i := 426) (by decide +kernel)⟩
theorem lw_p5 : lw_okq (⟨"HouseWires", "filterAt", "(I)LHouseWires$Filter;"⟩, 15) := ⟨⟨by decide +kernel, by decide +kernel⟩, List.mem_of_getElem? (i := 25) (by decide +kernel), List.mem_of_getElem? (i := 437) (by decide +kernel), List.mem_of_getElem? (i := 438) (by decide +kernel)⟩
theorem lw_p6 : lw_okq (⟨"HouseWires$Filter", "placeOf", "(I)I"⟩, 3) := ⟨⟨by decide +kernel, by decide +kernel⟩, List.mem_of_getElem? (i := 383) (by decide +kernel), List.mem_of_getElem? (i := 450) (by decide +kernel), List.mem_of_getElem? (i := 451) (by decide +kernel)⟩
theorem lw_p7 : lw_okq (⟨"HouseWires", "deviceAt", "(I)LHouseWires$Device;"⟩, 15) := ⟨⟨by decide +kernel, by decide +kernel⟩, List.mem_of_getElem? (i := 25) (by decide +kernel), List.mem_of_getElem? (i := 458) (by decide +kernel), List.mem_of_getElem? (i := 459) (by decide +kernel)⟩
theorem lw_p8 : lw_okq (⟨"HouseWires", "objectAt", "(II)LHouseWires$GroupObject;"⟩, 15) := ⟨⟨by decide +kernel, by decide +kernel⟩, List.mem_of_getElem? (i := 25) (by decide +kernel), List.mem_of_getElem? (i := 499) (by decide +kernel), List.mem_of_getElem? (i := 500) (by decide +kernel)⟩
theorem lw_p9 : lw_okq (⟨"HouseWires$Device", "ownGroup", "(I)I"⟩, 11) := ⟨⟨by decide +kernel, by decide +kernel⟩, List.mem_of_getElem? (i := 253) (by decide +kernel), List.mem_of_getElem? (i := 525) (by decide +kernel), List.mem_of_getElem? (i := 526) (by decide +kernel)⟩
theorem lw_p10 : lw_okq (⟨"HouseWires$Device", "sendToGroup", "(ILHouseWires$GroupObject;I)V"⟩, 11) := ⟨⟨by decide +kernel, by decide +kernel⟩, List.mem_of_getElem? (i := 253) (by decide +kernel), List.mem_of_getElem? (i := 541) (by decide +kernel), List.mem_of_getElem? (i := 542) (by decide +kernel)⟩
theorem lw_p11 : lw_okq (⟨"HouseWires$Connection", "start", "(II)V"⟩, 15) := ⟨⟨by decide +kernel, by decide +kernel⟩, List.mem_of_getElem? (i := 255) (by decide +kernel), List.mem_of_getElem? (i := 606) (by decide +kernel), List.mem_of_getElem? (i := 607) (by decide +kernel)⟩
theorem lw_p12 : lw_okq (⟨"HouseWires$Connection", "sendControl", "(II)V"⟩, 15) := ⟨⟨by decide +kernel, by decide +kernel⟩, List.mem_of_getElem? (i := 255) (by decide +kernel), List.mem_of_getElem? (i := 622) (by decide +kernel), List.mem_of_getElem? (i := 623) (by decide +kernel)⟩
theorem lw_p13 : lw_okq (⟨"HouseWires$Connection", "beginOrder", "(II)V"⟩, 15) := ⟨⟨by decide +kernel, by decide +kernel⟩, List.mem_of_getElem? (i := 255) (by decide +kernel), List.mem_of_getElem? (i := 634) (by decide +kernel), List.mem_of_getElem? (i := 635) (by decide +kernel)⟩
theorem lw_p14 : lw_okq (⟨"HouseWires$Connection", "sendOrder", "()V"⟩, 15) := ⟨⟨by decide +kernel, by decide +kernel⟩, List.mem_of_getElem? (i := 255) (by decide +kernel), List.mem_of_getElem? (i := 638) (by decide +kernel), List.mem_of_getElem? (i := 639) (by decide +kernel)⟩
theorem lw_p15 : lw_okq (⟨"HouseWires", "feedNumber", "(I)V"⟩, 15) := ⟨⟨by decide +kernel, by decide +kernel⟩, List.mem_of_getElem? (i := 25) (by decide +kernel), List.mem_of_getElem? (i := 678) (by decide +kernel), List.mem_of_getElem? (i := 679) (by decide +kernel)⟩
def lw_privs_1 : List (MethodName × Nat) := [(⟨"HouseWires", "lineOfNumber", "(I)I"⟩, 15), (⟨"HouseWires", "lineAt", "(I)LHouseWires$Line;"⟩, 15), (⟨"HouseWires", "hasDeviceOf", "(I)Z"⟩, 15), (⟨"HouseWires", "joinLines", "(IIII)V"⟩, 15), (⟨"HouseWires$Port", "leadsTo", "(I)Z"⟩, 5), (⟨"HouseWires", "filterAt", "(I)LHouseWires$Filter;"⟩, 15), (⟨"HouseWires$Filter", "placeOf", "(I)I"⟩, 3), (⟨"HouseWires", "deviceAt", "(I)LHouseWires$Device;"⟩, 15), (⟨"HouseWires", "objectAt", "(II)LHouseWires$GroupObject;"⟩, 15), (⟨"HouseWires$Device", "ownGroup", "(I)I"⟩, 11), (⟨"HouseWires$Device", "sendToGroup", "(ILHouseWires$GroupObject;I)V"⟩, 11), (⟨"HouseWires$Connection", "start", "(II)V"⟩, 15), (⟨"HouseWires$Connection", "sendControl", "(II)V"⟩, 15), (⟨"HouseWires$Connection", "beginOrder", "(II)V"⟩, 15), (⟨"HouseWires$Connection", "sendOrder", "()V"⟩, 15), (⟨"HouseWires", "feedNumber", "(I)V"⟩, 15)]
theorem lw_r1 : ∀ q ∈ lw_privs_1, lw_okq q := List.forall_mem_cons.mpr ⟨lw_p0, List.forall_mem_cons.mpr ⟨lw_p1, List.forall_mem_cons.mpr ⟨lw_p2, List.forall_mem_cons.mpr ⟨lw_p3, List.forall_mem_cons.mpr ⟨lw_p4, List.forall_mem_cons.mpr ⟨lw_p5, List.forall_mem_cons.mpr ⟨lw_p6, List.forall_mem_cons.mpr ⟨lw_p7, List.forall_mem_cons.mpr ⟨lw_p8, List.forall_mem_cons.mpr ⟨lw_p9, List.forall_mem_cons.mpr ⟨lw_p10, List.forall_mem_cons.mpr ⟨lw_p11, List.forall_mem_cons.mpr ⟨lw_p12, List.forall_mem_cons.mpr ⟨lw_p13, List.forall_mem_cons.mpr ⟨lw_p14, List.forall_mem_cons.mpr ⟨lw_p15, fun _ h => absurd h List.not_mem_nil⟩⟩⟩⟩⟩⟩⟩⟩⟩⟩⟩⟩⟩⟩⟩⟩
theorem lw_p16 : lw_okq (⟨"java/lang/Throwable", "fillInStackTrace", "(I)Ljava/lang/Throwable;"⟩, 6) := ⟨⟨by decide +kernel, by decide +kernel⟩, List.mem_of_getElem? (i := 752) (by decide +kernel), List.mem_of_getElem? (i := 750) (by decide +kernel), List.mem_of_getElem? (i := 751) (by decide +kernel)⟩
theorem lw_p17 : lw_okq (⟨"HouseWires", "transmit", "(ILHouseWires$Row;)V"⟩, 15) := ⟨⟨by decide +kernel, by decide +kernel⟩, List.mem_of_getElem? (i := 25) (by decide +kernel), List.mem_of_getElem? (i := 805) (by decide +kernel), List.mem_of_getElem? (i := 806) (by decide +kernel)⟩
theorem lw_p18 : lw_okq (⟨"HouseWires", "putOnWire", "(LHouseWires$Telegram;I)V"⟩, 15) := ⟨⟨by decide +kernel, by decide +kernel⟩, List.mem_of_getElem? (i := 25) (by decide +kernel), List.mem_of_getElem? (i := 809) (by decide +kernel), List.mem_of_getElem? (i := 810) (by decide +kernel)⟩
theorem lw_p19 : lw_okq (⟨"HouseWires$Device", "isFor", "(LHouseWires$Telegram;)Z"⟩, 11) := ⟨⟨by decide +kernel, by decide +kernel⟩, List.mem_of_getElem? (i := 253) (by decide +kernel), List.mem_of_getElem? (i := 836) (by decide +kernel), List.mem_of_getElem? (i := 837) (by decide +kernel)⟩
theorem lw_p20 : lw_okq (⟨"HouseWires$Device", "serveGroup", "(LHouseWires$Telegram;)V"⟩, 11) := ⟨⟨by decide +kernel, by decide +kernel⟩, List.mem_of_getElem? (i := 253) (by decide +kernel), List.mem_of_getElem? (i := 857) (by decide +kernel), List.mem_of_getElem? (i := 858) (by decide +kernel)⟩
theorem lw_p21 : lw_okq (⟨"HouseWires$Device", "serveObject", "(LHouseWires$GroupObject;IILHouseWires$Telegram;)V"⟩, 11) := ⟨⟨by decide +kernel, by decide +kernel⟩, List.mem_of_getElem? (i := 253) (by decide +kernel), List.mem_of_getElem? (i := 865) (by decide +kernel), List.mem_of_getElem? (i := 866) (by decide +kernel)⟩
theorem lw_p22 : lw_okq (⟨"HouseWires$Connection", "takesData", "(II)Z"⟩, 15) := ⟨⟨by decide +kernel, by decide +kernel⟩, List.mem_of_getElem? (i := 255) (by decide +kernel), List.mem_of_getElem? (i := 885) (by decide +kernel), List.mem_of_getElem? (i := 886) (by decide +kernel)⟩
theorem lw_p23 : lw_okq (⟨"HouseWires$Connection", "isPartner", "(I)Z"⟩, 15) := ⟨⟨by decide +kernel, by decide +kernel⟩, List.mem_of_getElem? (i := 255) (by decide +kernel), List.mem_of_getElem? (i := 889) (by decide +kernel), List.mem_of_getElem? (i := 890) (by decide +kernel)⟩
theorem lw_p24 : lw_okq (⟨"HouseWires$Connection", "obey", "(LHouseWires$Telegram;)V"⟩, 15) := ⟨⟨by decide +kernel, by decide +kernel⟩, List.mem_of_getElem? (i := 255) (by decide +kernel), List.mem_of_getElem? (i := 893) (by decide +kernel), List.mem_of_getElem? (i := 894) (by decide +kernel)⟩
theorem lw_p25 : lw_okq (⟨"HouseWires$Connection", "answerRead", "(II)V"⟩, 15) := ⟨⟨by decide +kernel, by decide +kernel⟩, List.mem_of_getElem? (i := 255) (by decide +kernel), List.mem_of_getElem? (i := 897) (by decide +kernel), List.mem_of_getElem? (i := 898) (by decide +kernel)⟩
theorem lw_p26 : lw_okq (⟨"HouseWires$Connection", "beOpened", "(I)V"⟩, 15) := ⟨⟨by decide +kernel, by decide +kernel⟩, List.mem_of_getElem? (i := 255) (by decide +kernel), List.mem_of_getElem? (i := 902) (by decide +kernel), List.mem_of_getElem? (i := 903) (by decide +kernel)⟩
theorem lw_p27 : lw_okq (⟨"HouseWires$Connection", "sendAgain", "()V"⟩, 15) := ⟨⟨by decide +kernel, by decide +kernel⟩, List.mem_of_getElem? (i := 255) (by decide +kernel), List.mem_of_getElem? (i := 907) (by decide +kernel), List.mem_of_getElem? (i := 908) (by decide +kernel)⟩
theorem lw_p28 : lw_okq (⟨"HouseWires$Connection", "proceed", "()V"⟩, 15) := ⟨⟨by decide +kernel, by decide +kernel⟩, List.mem_of_getElem? (i := 255) (by decide +kernel), List.mem_of_getElem? (i := 911) (by decide +kernel), List.mem_of_getElem? (i := 912) (by decide +kernel)⟩
theorem lw_p29 : lw_okq (⟨"HouseWires", "finish", "(LHouseWires$Row;LHouseWires$Station;Z)V"⟩, 15) := ⟨⟨by decide +kernel, by decide +kernel⟩, List.mem_of_getElem? (i := 25) (by decide +kernel), List.mem_of_getElem? (i := 949) (by decide +kernel), List.mem_of_getElem? (i := 950) (by decide +kernel)⟩
theorem lw_p30 : lw_okq (⟨"HouseWiresModel", "lineOf", "(I)I"⟩, 40) := ⟨⟨by decide +kernel, by decide +kernel⟩, List.mem_of_getElem? (i := 998) (by decide +kernel), List.mem_of_getElem? (i := 1315) (by decide +kernel), List.mem_of_getElem? (i := 1316) (by decide +kernel)⟩
theorem lw_p31 : lw_okq (⟨"HouseWiresModel", "isLine", "(I)Z"⟩, 40) := ⟨⟨by decide +kernel, by decide +kernel⟩, List.mem_of_getElem? (i := 998) (by decide +kernel), List.mem_of_getElem? (i := 1323) (by decide +kernel), List.mem_of_getElem? (i := 1324) (by decide +kernel)⟩
def lw_privs_2 : List (MethodName × Nat) := [(⟨"java/lang/Throwable", "fillInStackTrace", "(I)Ljava/lang/Throwable;"⟩, 6), (⟨"HouseWires", "transmit", "(ILHouseWires$Row;)V"⟩, 15), (⟨"HouseWires", "putOnWire", "(LHouseWires$Telegram;I)V"⟩, 15), (⟨"HouseWires$Device", "isFor", "(LHouseWires$Telegram;)Z"⟩, 11), (⟨"HouseWires$Device", "serveGroup", "(LHouseWires$Telegram;)V"⟩, 11), (⟨"HouseWires$Device", "serveObject", "(LHouseWires$GroupObject;IILHouseWires$Telegram;)V"⟩, 11), (⟨"HouseWires$Connection", "takesData", "(II)Z"⟩, 15), (⟨"HouseWires$Connection", "isPartner", "(I)Z"⟩, 15), (⟨"HouseWires$Connection", "obey", "(LHouseWires$Telegram;)V"⟩, 15), (⟨"HouseWires$Connection", "answerRead", "(II)V"⟩, 15), (⟨"HouseWires$Connection", "beOpened", "(I)V"⟩, 15), (⟨"HouseWires$Connection", "sendAgain", "()V"⟩, 15), (⟨"HouseWires$Connection", "proceed", "()V"⟩, 15), (⟨"HouseWires", "finish", "(LHouseWires$Row;LHouseWires$Station;Z)V"⟩, 15), (⟨"HouseWiresModel", "lineOf", "(I)I"⟩, 40), (⟨"HouseWiresModel", "isLine", "(I)Z"⟩, 40)]
theorem lw_r2 : ∀ q ∈ lw_privs_2, lw_okq q := List.forall_mem_cons.mpr ⟨lw_p16, List.forall_mem_cons.mpr ⟨lw_p17, List.forall_mem_cons.mpr ⟨lw_p18, List.forall_mem_cons.mpr ⟨lw_p19, List.forall_mem_cons.mpr ⟨lw_p20, List.forall_mem_cons.mpr ⟨lw_p21, List.forall_mem_cons.mpr ⟨lw_p22, List.forall_mem_cons.mpr ⟨lw_p23, List.forall_mem_cons.mpr ⟨lw_p24, List.forall_mem_cons.mpr ⟨lw_p25, List.forall_mem_cons.mpr ⟨lw_p26, List.forall_mem_cons.mpr ⟨lw_p27, List.forall_mem_cons.mpr ⟨lw_p28, List.forall_mem_cons.mpr ⟨lw_p29, List.forall_mem_cons.mpr ⟨lw_p30, List.forall_mem_cons.mpr ⟨lw_p31, fun _ h => absurd h List.not_mem_nil⟩⟩⟩⟩⟩⟩⟩⟩⟩⟩⟩⟩⟩⟩⟩⟩
theorem lw_p32 : lw_okq (⟨"HouseWiresModel", "isJoined", "(III)Z"⟩, 40) := ⟨⟨by decide +kernel, by decide +kernel⟩, List.mem_of_getElem? (i := 998) (by decide +kernel), List.mem_of_getElem? (i := 1331) (by decide +kernel), List.mem_of_getElem? (i := 1332) (by decide +kernel)⟩
theorem lw_p33 : lw_okq (⟨"HouseWiresModel", "isCoupler", "(I)Z"⟩, 40) := ⟨⟨by decide +kernel, by decide +kernel⟩, List.mem_of_getElem? (i := 998) (by decide +kernel), List.mem_of_getElem? (i := 1339) (by decide +kernel), List.mem_of_getElem? (i := 1340) (by decide +kernel)⟩
theorem lw_p34 : lw_okq (⟨"HouseWiresModel", "isDevice", "(I)Z"⟩, 40) := ⟨⟨by decide +kernel, by decide +kernel⟩, List.mem_of_getElem? (i := 998) (by decide +kernel), List.mem_of_getElem? (i := 1352) (by decide +kernel), List.mem_of_getElem? (i := 1353) (by decide +kernel)⟩
theorem lw_p35 : lw_okq (⟨"HouseWiresModel", "isObject", "(II)Z"⟩, 40) := ⟨⟨by decide +kernel, by decide +kernel⟩, List.mem_of_getElem? (i := 998) (by decide +kernel), List.mem_of_getElem? (i := 1362) (by decide +kernel), List.mem_of_getElem? (i := 1363) (by decide +kernel)⟩
theorem lw_p36 : lw_okq (⟨"HouseWiresModel", "sets", "(LHouseWiresModel$Device;II)I"⟩, 40) := ⟨⟨by decide +kernel, by decide +kernel⟩, List.mem_of_getElem? (i := 998) (by decide +kernel), List.mem_of_getElem? (i := 1374) (by decide +kernel), List.mem_of_getElem? (i := 1375) (by decide +kernel)⟩
theorem lw_p37 : lw_okq (⟨"HouseWiresModel", "tellsValue", "(LHouseWiresModel$Device;III)V"⟩, 40) := ⟨⟨by decide +kernel, by decide +kernel⟩, List.mem_of_getElem? (i := 998) (by decide +kernel), List.mem_of_getElem? (i := 1384) (by decide +kernel), List.mem_of_getElem? (i := 1385) (by decide +kernel)⟩
theorem lw_p38 : lw_okq (⟨"HouseWiresModel", "tells", "(LHouseWiresModel$Device;IZI[II)I"⟩, 40) := ⟨⟨by decide +kernel, by decide +kernel⟩, List.mem_of_getElem? (i := 998) (by decide +kernel), List.mem_of_getElem? (i := 1391) (by decide +kernel), List.mem_of_getElem? (i := 1392) (by decide +kernel)⟩
theorem lw_p39 : lw_okq (⟨"HouseWiresModel", "comes", "(LHouseWiresModel$Out;[II)I"⟩, 40) := ⟨⟨by decide +kernel, by decide +kernel⟩, List.mem_of_getElem? (i := 998) (by decide +kernel), List.mem_of_getElem? (i := 1398) (by decide +kernel), List.mem_of_getElem? (i := 1399) (by decide +kernel)⟩
theorem lw_p40 : lw_okq (⟨"HouseWiresModel", "tellsOne", "(LHouseWiresModel$Device;II)I"⟩, 40) := ⟨⟨by decide +kernel, by decide +kernel⟩, List.mem_of_getElem? (i := 998) (by decide +kernel), List.mem_of_getElem? (i := 1430) (by decide +kernel), List.mem_of_getElem? (i := 1431) (by decide +kernel)⟩
theorem lw_p41 : lw_okq (⟨"HouseWiresModel", "closes", "(LHouseWiresModel$Device;)V"⟩, 40) := ⟨⟨by decide +kernel, by decide +kernel⟩, List.mem_of_getElem? (i := 998) (by decide +kernel), List.mem_of_getElem? (i := 1438) (by decide +kernel), List.mem_of_getElem? (i := 1439) (by decide +kernel)⟩
theorem lw_p42 : lw_okq (⟨"HouseWiresModel", "mayOrder", "(IIII)Z"⟩, 40) := ⟨⟨by decide +kernel, by decide +kernel⟩, List.mem_of_getElem? (i := 998) (by decide +kernel), List.mem_of_getElem? (i := 1446) (by decide +kernel), List.mem_of_getElem? (i := 1447) (by decide +kernel)⟩
theorem lw_p43 : lw_okq (⟨"HouseWiresModel", "sendsData", "(LHouseWiresModel$Device;[II)V"⟩, 40) := ⟨⟨by decide +kernel, by decide +kernel⟩, List.mem_of_getElem? (i := 998) (by decide +kernel), List.mem_of_getElem? (i := 1450) (by decide +kernel), List.mem_of_getElem? (i := 1451) (by decide +kernel)⟩
theorem lw_p44 : lw_okq (⟨"HouseWiresModel", "goesOn", "(I)V"⟩, 40) := ⟨⟨by decide +kernel, by decide +kernel⟩, List.mem_of_getElem? (i := 998) (by decide +kernel), List.mem_of_getElem? (i := 1498) (by decide +kernel), List.mem_of_getElem? (i := 1499) (by decide +kernel)⟩
theorem lw_p45 : lw_okq (⟨"HouseWiresModel", "gather", "(I)V"⟩, 40) := ⟨⟨by decide +kernel, by decide +kernel⟩, List.mem_of_getElem? (i := 998) (by decide +kernel), List.mem_of_getElem? (i := 1502) (by decide +kernel), List.mem_of_getElem? (i := 1503) (by decide +kernel)⟩
theorem lw_p46 : lw_okq (⟨"HouseWiresModel", "stands", "(LHouseWiresModel$Out;I)V"⟩, 40) := ⟨⟨by decide +kernel, by decide +kernel⟩, List.mem_of_getElem? (i := 998) (by decide +kernel), List.mem_of_getElem? (i := 1506) (by decide +kernel), List.mem_of_getElem? (i := 1507) (by decide +kernel)⟩
theorem lw_p47 : lw_okq (⟨"HouseWiresModel", "winner", "()I"⟩, 40) := ⟨⟨by decide +kernel, by decide +kernel⟩, List.mem_of_getElem? (i := 998) (by decide +kernel), List.mem_of_getElem? (i := 1510) (by decide +kernel), List.mem_of_getElem? (i := 1511) (by decide +kernel)⟩
def lw_privs_3 : List (MethodName × Nat) := [(⟨"HouseWiresModel", "isJoined", "(III)Z"⟩, 40), (⟨"HouseWiresModel", "isCoupler", "(I)Z"⟩, 40), (⟨"HouseWiresModel", "isDevice", "(I)Z"⟩, 40), (⟨"HouseWiresModel", "isObject", "(II)Z"⟩, 40), (⟨"HouseWiresModel", "sets", "(LHouseWiresModel$Device;II)I"⟩, 40), (⟨"HouseWiresModel", "tellsValue", "(LHouseWiresModel$Device;III)V"⟩, 40), (⟨"HouseWiresModel", "tells", "(LHouseWiresModel$Device;IZI[II)I"⟩, 40), (⟨"HouseWiresModel", "comes", "(LHouseWiresModel$Out;[II)I"⟩, 40), (⟨"HouseWiresModel", "tellsOne", "(LHouseWiresModel$Device;II)I"⟩, 40), (⟨"HouseWiresModel", "closes", "(LHouseWiresModel$Device;)V"⟩, 40), (⟨"HouseWiresModel", "mayOrder", "(IIII)Z"⟩, 40), (⟨"HouseWiresModel", "sendsData", "(LHouseWiresModel$Device;[II)V"⟩, 40), (⟨"HouseWiresModel", "goesOn", "(I)V"⟩, 40), (⟨"HouseWiresModel", "gather", "(I)V"⟩, 40), (⟨"HouseWiresModel", "stands", "(LHouseWiresModel$Out;I)V"⟩, 40), (⟨"HouseWiresModel", "winner", "()I"⟩, 40)]
theorem lw_r3 : ∀ q ∈ lw_privs_3, lw_okq q := List.forall_mem_cons.mpr ⟨lw_p32, List.forall_mem_cons.mpr ⟨lw_p33, List.forall_mem_cons.mpr ⟨lw_p34, List.forall_mem_cons.mpr ⟨lw_p35, List.forall_mem_cons.mpr ⟨lw_p36, List.forall_mem_cons.mpr ⟨lw_p37, List.forall_mem_cons.mpr ⟨lw_p38, List.forall_mem_cons.mpr ⟨lw_p39, List.forall_mem_cons.mpr ⟨lw_p40, List.forall_mem_cons.mpr ⟨lw_p41, List.forall_mem_cons.mpr ⟨lw_p42, List.forall_mem_cons.mpr ⟨lw_p43, List.forall_mem_cons.mpr ⟨lw_p44, List.forall_mem_cons.mpr ⟨lw_p45, List.forall_mem_cons.mpr ⟨lw_p46, List.forall_mem_cons.mpr ⟨lw_p47, fun _ h => absurd h List.not_mem_nil⟩⟩⟩⟩⟩⟩⟩⟩⟩⟩⟩⟩⟩⟩⟩⟩
theorem lw_p48 : lw_okq (⟨"HouseWiresModel", "hears", "(LHouseWiresModel$Out;)V"⟩, 40) := ⟨⟨by decide +kernel, by decide +kernel⟩, List.mem_of_getElem? (i := 998) (by decide +kernel), List.mem_of_getElem? (i := 1523) (by decide +kernel), List.mem_of_getElem? (i := 1524) (by decide +kernel)⟩
theorem lw_p49 : lw_okq (⟨"HouseWiresModel", "answerOf", "(IZ)I"⟩, 40) := ⟨⟨by decide +kernel, by decide +kernel⟩, List.mem_of_getElem? (i := 998) (by decide +kernel), List.mem_of_getElem? (i := 1530) (by decide +kernel), List.mem_of_getElem? (i := 1531) (by decide +kernel)⟩
theorem lw_p50 : lw_okq (⟨"HouseWiresModel", "answerDevice", "(LHouseWiresModel$Device;)I"⟩, 40) := ⟨⟨by decide +kernel, by decide +kernel⟩, List.mem_of_getElem? (i := 998) (by decide +kernel), List.mem_of_getElem? (i := 1534) (by decide +kernel), List.mem_of_getElem? (i := 1535) (by decide +kernel)⟩
theorem lw_p51 : lw_okq (⟨"HouseWiresModel", "doesGroup", "(LHouseWiresModel$Device;[III)V"⟩, 40) := ⟨⟨by decide +kernel, by decide +kernel⟩, List.mem_of_getElem? (i := 998) (by decide +kernel), List.mem_of_getElem? (i := 1547) (by decide +kernel), List.mem_of_getElem? (i := 1548) (by decide +kernel)⟩
theorem lw_p52 : lw_okq (⟨"HouseWiresModel", "doesAddress", "(LHouseWiresModel$Device;[III)V"⟩, 40) := ⟨⟨by decide +kernel, by decide +kernel⟩, List.mem_of_getElem? (i := 998) (by decide +kernel), List.mem_of_getElem? (i := 1554) (by decide +kernel), List.mem_of_getElem? (i := 1555) (by decide +kernel)⟩
theorem lw_p53 : lw_okq (⟨"HouseWiresModel", "opens", "(LHouseWiresModel$Device;I)V"⟩, 40) := ⟨⟨by decide +kernel, by decide +kernel⟩, List.mem_of_getElem? (i := 998) (by decide +kernel), List.mem_of_getElem? (i := 1558) (by decide +kernel), List.mem_of_getElem? (i := 1559) (by decide +kernel)⟩
theorem lw_p54 : lw_okq (⟨"HouseWiresModel", "answers", "(LHouseWiresModel$Device;II)V"⟩, 40) := ⟨⟨by decide +kernel, by decide +kernel⟩, List.mem_of_getElem? (i := 998) (by decide +kernel), List.mem_of_getElem? (i := 1562) (by decide +kernel), List.mem_of_getElem? (i := 1563) (by decide +kernel)⟩
theorem lw_p55 : lw_okq (⟨"HouseWiresModel", "again", "(LHouseWiresModel$Device;)V"⟩, 40) := ⟨⟨by decide +kernel, by decide +kernel⟩, List.mem_of_getElem? (i := 998) (by decide +kernel), List.mem_of_getElem? (i := 1566) (by decide +kernel), List.mem_of_getElem? (i := 1567) (by decide +kernel)⟩
theorem lw_p56 : lw_okq (⟨"HouseWiresModel", "data", "(LHouseWiresModel$Device;[III)V"⟩, 40) := ⟨⟨by decide +kernel, by decide +kernel⟩, List.mem_of_getElem? (i := 998) (by decide +kernel), List.mem_of_getElem? (i := 1570) (by decide +kernel), List.mem_of_getElem? (i := 1571) (by decide +kernel)⟩
theorem lw_p57 : lw_okq (⟨"HouseWiresModel", "orders", "(LHouseWiresModel$Device;[II)V"⟩, 40) := ⟨⟨by decide +kernel, by decide +kernel⟩, List.mem_of_getElem? (i := 998) (by decide +kernel), List.mem_of_getElem? (i := 1574) (by decide +kernel), List.mem_of_getElem? (i := 1575) (by decide +kernel)⟩
theorem lw_p58 : lw_okq (⟨"HouseWiresModel", "answerCoupler", "(LHouseWiresModel$Coupler;II)I"⟩, 40) := ⟨⟨by decide +kernel, by decide +kernel⟩, List.mem_of_getElem? (i := 998) (by decide +kernel), List.mem_of_getElem? (i := 1578) (by decide +kernel), List.mem_of_getElem? (i := 1579) (by decide +kernel)⟩
theorem lw_p59 : lw_okq (⟨"HouseWiresModel", "passes", "(LHouseWiresModel$Coupler;II)Z"⟩, 40) := ⟨⟨by decide +kernel, by decide +kernel⟩, List.mem_of_getElem? (i := 998) (by decide +kernel), List.mem_of_getElem? (i := 1582) (by decide +kernel), List.mem_of_getElem? (i := 1583) (by decide +kernel)⟩
theorem lw_p60 : lw_okq (⟨"HouseWiresModel", "ends", "(LHouseWiresModel$Out;I)V"⟩, 40) := ⟨⟨by decide +kernel, by decide +kernel⟩, List.mem_of_getElem? (i := 998) (by decide +kernel), List.mem_of_getElem? (i := 1586) (by decide +kernel), List.mem_of_getElem? (i := 1587) (by decide +kernel)⟩
theorem lw_p61 : lw_okq (⟨"HouseWiresModel", "times", "(LHouseWiresModel$Device;)V"⟩, 40) := ⟨⟨by decide +kernel, by decide +kernel⟩, List.mem_of_getElem? (i := 998) (by decide +kernel), List.mem_of_getElem? (i := 1594) (by decide +kernel), List.mem_of_getElem? (i := 1595) (by decide +kernel)⟩
def lw_privs_4 : List (MethodName × Nat) := [(⟨"HouseWiresModel", "hears", "(LHouseWiresModel$Out;)V"⟩, 40), (⟨"HouseWiresModel", "answerOf", "(IZ)I"⟩, 40), (⟨"HouseWiresModel", "answerDevice", "(LHouseWiresModel$Device;)I"⟩, 40), (⟨"HouseWiresModel", "doesGroup", "(LHouseWiresModel$Device;[III)V"⟩, 40), (⟨"HouseWiresModel", "doesAddress", "(LHouseWiresModel$Device;[III)V"⟩, 40), (⟨"HouseWiresModel", "opens", "(LHouseWiresModel$Device;I)V"⟩, 40), (⟨"HouseWiresModel", "answers", "(LHouseWiresModel$Device;II)V"⟩, 40), (⟨"HouseWiresModel", "again", "(LHouseWiresModel$Device;)V"⟩, 40), (⟨"HouseWiresModel", "data", "(LHouseWiresModel$Device;[III)V"⟩, 40), (⟨"HouseWiresModel", "orders", "(LHouseWiresModel$Device;[II)V"⟩, 40), (⟨"HouseWiresModel", "answerCoupler", "(LHouseWiresModel$Coupler;II)I"⟩, 40), (⟨"HouseWiresModel", "passes", "(LHouseWiresModel$Coupler;II)Z"⟩, 40), (⟨"HouseWiresModel", "ends", "(LHouseWiresModel$Out;I)V"⟩, 40), (⟨"HouseWiresModel", "times", "(LHouseWiresModel$Device;)V"⟩, 40)]
theorem lw_r4 : ∀ q ∈ lw_privs_4, lw_okq q := List.forall_mem_cons.mpr ⟨lw_p48, List.forall_mem_cons.mpr ⟨lw_p49, List.forall_mem_cons.mpr ⟨lw_p50, List.forall_mem_cons.mpr ⟨lw_p51, List.forall_mem_cons.mpr ⟨lw_p52, List.forall_mem_cons.mpr ⟨lw_p53, List.forall_mem_cons.mpr ⟨lw_p54, List.forall_mem_cons.mpr ⟨lw_p55, List.forall_mem_cons.mpr ⟨lw_p56, List.forall_mem_cons.mpr ⟨lw_p57, List.forall_mem_cons.mpr ⟨lw_p58, List.forall_mem_cons.mpr ⟨lw_p59, List.forall_mem_cons.mpr ⟨lw_p60, List.forall_mem_cons.mpr ⟨lw_p61, fun _ h => absurd h List.not_mem_nil⟩⟩⟩⟩⟩⟩⟩⟩⟩⟩⟩⟩⟩⟩
def lw_privs : List (MethodName × Nat) := lw_privs_1 ++ (lw_privs_2 ++ (lw_privs_3 ++ (lw_privs_4)))
def lw_tbl : List Cond := k2_sels lw_privs ++ tables_1
theorem lw_privs_ok : ∀ q ∈ lw_privs, lw_okq q := by
  show ∀ q ∈ lw_privs_1 ++ (lw_privs_2 ++ (lw_privs_3 ++ (lw_privs_4))), lw_okq q
  exact List.forall_mem_append.mpr ⟨lw_r1, List.forall_mem_append.mpr ⟨lw_r2, List.forall_mem_append.mpr ⟨lw_r3, lw_r4⟩⟩⟩
-- ===== end of PART A; then your names; then what follows =====
end
section
/-! ===== BEGIN printed: names, fields, word lists, decode rows ===== -/
def RX0 : String := "HouseWires$Connection"
def TX0 : u_T := fun k => match k with
  | 0 => ("HouseWires$Connection", "address", "I", true)
  | 1 => ("HouseWires$Connection", "out", "LHouseWires$Row;", true)
  | 2 => ("HouseWires$Connection", "draft", "LHouseWires$Telegram;", true)
  | 3 => ("HouseWires$Connection", "kept", "LHouseWires$Telegram;", true)
  | 4 => ("HouseWires$Connection", "memory", "[I", true)
  | 5 => ("HouseWires$Connection", "answer", "[I", true)
  | 6 => ("HouseWires$Connection", "answerLength", "I", false)
  | 7 => ("HouseWires$Connection", "state", "I", false)
  | 8 => ("HouseWires$Connection", "partner", "I", false)
  | 9 => ("HouseWires$Connection", "sentNumber", "I", false)
  | 10 => ("HouseWires$Connection", "gotNumber", "I", false)
  | 11 => ("HouseWires$Connection", "tries", "I", false)
  | 12 => ("HouseWires$Connection", "pause", "I", false)
  | 13 => ("HouseWires$Connection", "idle", "I", false)
  | _ => ("HouseWires$Connection", "joins", "I", false)
def tyX0 : Nat → FieldType := fun k => match k with
  | 0 => .int
  | 1 => .object "HouseWires$Row"
  | 2 => .object "HouseWires$Telegram"
  | 3 => .object "HouseWires$Telegram"
  | 4 => .array .int
  | 5 => .array .int
  | 6 => .int
  | 7 => .int
  | 8 => .int
  | 9 => .int
  | 10 => .int
  | 11 => .int
  | 12 => .int
  | 13 => .int
  | _ => .int
abbrev wsX00 : List Cond := u_ws RX0 TX0 15
theorem nmX0 : ∀ a, a < 15 → ∀ b, b < 15 → a ≠ b → (TX0 a).2.1 ≠ (TX0 b).2.1 := by decide +kernel
theorem tyX0_ok : ∀ k, k < 15 → parseFieldDescriptor (TX0 k).2.2.1 = some (tyX0 k) := by decide +kernel
abbrev cX0_init : ByteArray := prog_2_method_1_code
def yX0_init : MethodName := ⟨RX0, "<init>", "(ILHouseWires$Row;LHouseWires$Telegram;)V"⟩
abbrev cX0_tell : ByteArray := prog_2_method_2_code
def yX0_tell : MethodName := ⟨RX0, "tell", "(I)I"⟩
abbrev cX0_join : ByteArray := prog_2_method_3_code
def yX0_join : MethodName := ⟨RX0, "join", "(I)Z"⟩
abbrev cX0_finishJoin : ByteArray := prog_2_method_4_code
def yX0_finishJoin : MethodName := ⟨RX0, "finishJoin", "(IZ)V"⟩
abbrev cX0_close : ByteArray := prog_2_method_5_code
def yX0_close : MethodName := ⟨RX0, "close", "()V"⟩
abbrev cX0_orderRead : ByteArray := prog_2_method_6_code
def yX0_orderRead : MethodName := ⟨RX0, "orderRead", "(II)Z"⟩
abbrev cX0_orderWrite : ByteArray := prog_2_method_7_code
def yX0_orderWrite : MethodName := ⟨RX0, "orderWrite", "(III)Z"⟩
abbrev cX0_receive : ByteArray := prog_2_method_8_code
def yX0_receive : MethodName := ⟨RX0, "receive", "(LHouseWires$Telegram;)V"⟩
abbrev cX0_tick : ByteArray := prog_2_method_9_code
def yX0_tick : MethodName := ⟨RX0, "tick", "()V"⟩
abbrev cX0_isPartner : ByteArray := prog_2_method_10_code
def yX0_isPartner : MethodName := ⟨RX0, "isPartner", "(I)Z"⟩
abbrev cX0_start : ByteArray := prog_2_method_11_code
def yX0_start : MethodName := ⟨RX0, "start", "(II)V"⟩
abbrev cX0_beOpened : ByteArray := prog_2_method_12_code
def yX0_beOpened : MethodName := ⟨RX0, "beOpened", "(I)V"⟩
abbrev cX0_proceed : ByteArray := prog_2_method_13_code
def yX0_proceed : MethodName := ⟨RX0, "proceed", "()V"⟩
abbrev cX0_sendAgain : ByteArray := prog_2_method_14_code
def yX0_sendAgain : MethodName := ⟨RX0, "sendAgain", "()V"⟩
abbrev cX0_takesData : ByteArray := prog_2_method_15_code
def yX0_takesData : MethodName := ⟨RX0, "takesData", "(II)Z"⟩
abbrev cX0_obey : ByteArray := prog_2_method_16_code
def yX0_obey : MethodName := ⟨RX0, "obey", "(LHouseWires$Telegram;)V"⟩
abbrev cX0_answerRead : ByteArray := prog_2_method_17_code
def yX0_answerRead : MethodName := ⟨RX0, "answerRead", "(II)V"⟩
abbrev cX0_sendControl : ByteArray := prog_2_method_18_code
def yX0_sendControl : MethodName := ⟨RX0, "sendControl", "(II)V"⟩
abbrev cX0_beginOrder : ByteArray := prog_2_method_19_code
def yX0_beginOrder : MethodName := ⟨RX0, "beginOrder", "(II)V"⟩
abbrev cX0_sendOrder : ByteArray := prog_2_method_20_code
def yX0_sendOrder : MethodName := ⟨RX0, "sendOrder", "()V"⟩
def RX1 : String := "HouseWires$Device"
def TX1 : u_T := fun k => match k with
  | 0 => ("HouseWires$Station", "out", "LHouseWires$Row;", true)
  | 1 => ("HouseWires$Station", "latestDone", "LHouseWires$Telegram;", true)
  | 2 => ("HouseWires$Device", "address", "I", true)
  | 3 => ("HouseWires$Device", "connection", "LHouseWires$Connection;", true)
  | 4 => ("HouseWires$Device", "draft", "LHouseWires$Telegram;", true)
  | 5 => ("HouseWires$Device", "objects", "[LHouseWires$GroupObject;", true)
  | 6 => ("HouseWires$Device", "linkedObjects", "[I", true)
  | 7 => ("HouseWires$Device", "linkedGroups", "[I", true)
  | 8 => ("HouseWires$Device", "objectCount", "I", false)
  | 9 => ("HouseWires$Device", "linkCount", "I", false)
  | _ => ("HouseWires$Device", "busyFor", "I", false)
def tyX1 : Nat → FieldType := fun k => match k with
  | 0 => .object "HouseWires$Row"
  | 1 => .object "HouseWires$Telegram"
  | 2 => .int
  | 3 => .object "HouseWires$Connection"
  | 4 => .object "HouseWires$Telegram"
  | 5 => .array (.object "HouseWires$GroupObject")
  | 6 => .array .int
  | 7 => .array .int
  | 8 => .int
  | 9 => .int
  | _ => .int
abbrev wsX10 : List Cond := u_ws RX1 TX1 11
theorem nmX1 : ∀ a, a < 11 → ∀ b, b < 11 → a ≠ b → (TX1 a).2.1 ≠ (TX1 b).2.1 := by decide +kernel
theorem tyX1_ok : ∀ k, k < 11 → parseFieldDescriptor (TX1 k).2.2.1 = some (tyX1 k) := by decide +kernel
abbrev cX1_init : ByteArray := prog_3_method_1_code
def yX1_init : MethodName := ⟨RX1, "<init>", "(ILHouseWires$Row;LHouseWires$Telegram;LHouseWires$Connection;)V"⟩
abbrev cX1_findObject : ByteArray := prog_3_method_2_code
def yX1_findObject : MethodName := ⟨RX1, "findObject", "(I)LHouseWires$GroupObject;"⟩
abbrev cX1_addObject : ByteArray := prog_3_method_3_code
def yX1_addObject : MethodName := ⟨RX1, "addObject", "(III)I"⟩
abbrev cX1_addLink : ByteArray := prog_3_method_4_code
def yX1_addLink : MethodName := ⟨RX1, "addLink", "(II)Z"⟩
abbrev cX1_changeObject : ByteArray := prog_3_method_5_code
def yX1_changeObject : MethodName := ⟨RX1, "changeObject", "(II)I"⟩
abbrev cX1_askGroup : ByteArray := prog_3_method_6_code
def yX1_askGroup : MethodName := ⟨RX1, "askGroup", "(I)I"⟩
abbrev cX1_hear : ByteArray := prog_3_method_7_code
def yX1_hear : MethodName := ⟨RX1, "hear", "(LHouseWires$Telegram;I)I"⟩
abbrev cX1_learn : ByteArray := prog_3_method_8_code
def yX1_learn : MethodName := ⟨RX1, "learn", "(IZ)V"⟩
abbrev cX1_isFor : ByteArray := prog_3_method_9_code
def yX1_isFor : MethodName := ⟨RX1, "isFor", "(LHouseWires$Telegram;)Z"⟩
abbrev cX1_ownGroup : ByteArray := prog_3_method_10_code
def yX1_ownGroup : MethodName := ⟨RX1, "ownGroup", "(I)I"⟩
abbrev cX1_serveGroup : ByteArray := prog_3_method_11_code
def yX1_serveGroup : MethodName := ⟨RX1, "serveGroup", "(LHouseWires$Telegram;)V"⟩
abbrev cX1_serveObject : ByteArray := prog_3_method_12_code
def yX1_serveObject : MethodName := ⟨RX1, "serveObject", "(LHouseWires$GroupObject;IILHouseWires$Telegram;)V"⟩
abbrev cX1_sendToGroup : ByteArray := prog_3_method_13_code
def yX1_sendToGroup : MethodName := ⟨RX1, "sendToGroup", "(ILHouseWires$GroupObject;I)V"⟩
def RX2 : String := "HouseWires$Filter"
def TX2 : u_T := fun k => match k with
  | 0 => ("HouseWires$Filter", "groups", "[I", true)
  | 1 => ("HouseWires$Filter", "size", "I", false)
  | _ => ("HouseWires$Filter", "mode", "I", false)
def tyX2 : Nat → FieldType := fun k => match k with
  | 0 => .array .int
  | 1 => .int
  | _ => .int
abbrev wsX20 : List Cond := u_ws RX2 TX2 3
theorem nmX2 : ∀ a, a < 3 → ∀ b, b < 3 → a ≠ b → (TX2 a).2.1 ≠ (TX2 b).2.1 := by decide +kernel
theorem tyX2_ok : ∀ k, k < 3 → parseFieldDescriptor (TX2 k).2.2.1 = some (tyX2 k) := by decide +kernel
abbrev cX2_init : ByteArray := prog_4_method_1_code
def yX2_init : MethodName := ⟨RX2, "<init>", "()V"⟩
abbrev cX2_passes : ByteArray := prog_4_method_2_code
def yX2_passes : MethodName := ⟨RX2, "passes", "(I)Z"⟩
abbrev cX2_change : ByteArray := prog_4_method_3_code
def yX2_change : MethodName := ⟨RX2, "change", "(IZ)Z"⟩
abbrev cX2_placeOf : ByteArray := prog_4_method_4_code
def yX2_placeOf : MethodName := ⟨RX2, "placeOf", "(I)I"⟩
def RX3 : String := "HouseWires$GroupObject"
def TX3 : u_T := fun k => match k with
  | 0 => ("HouseWires$GroupObject", "bits", "I", true)
  | 1 => ("HouseWires$GroupObject", "priority", "I", true)
  | 2 => ("HouseWires$GroupObject", "flags", "I", false)
  | 3 => ("HouseWires$GroupObject", "value", "I", false)
  | _ => ("HouseWires$GroupObject", "updates", "I", false)
def tyX3 : Nat → FieldType := fun k => match k with
  | 0 => .int
  | 1 => .int
  | 2 => .int
  | 3 => .int
  | _ => .int
abbrev wsX30 : List Cond := u_ws RX3 TX3 5
theorem nmX3 : ∀ a, a < 5 → ∀ b, b < 5 → a ≠ b → (TX3 a).2.1 ≠ (TX3 b).2.1 := by decide +kernel
theorem tyX3_ok : ∀ k, k < 5 → parseFieldDescriptor (TX3 k).2.2.1 = some (tyX3 k) := by decide +kernel
abbrev cX3_init : ByteArray := prog_5_method_1_code
def yX3_init : MethodName := ⟨RX3, "<init>", "(III)V"⟩
abbrev cX3_has : ByteArray := prog_5_method_2_code
def yX3_has : MethodName := ⟨RX3, "has", "(I)Z"⟩
abbrev cX3_lowestBits : ByteArray := prog_5_method_3_code
def yX3_lowestBits : MethodName := ⟨RX3, "lowestBits", "(I)I"⟩
abbrev cX3_bytesBehind : ByteArray := prog_5_method_4_code
def yX3_bytesBehind : MethodName := ⟨RX3, "bytesBehind", "()I"⟩
abbrev cX3_takeFrom : ByteArray := prog_5_method_5_code
def yX3_takeFrom : MethodName := ⟨RX3, "takeFrom", "(LHouseWires$Telegram;)V"⟩
def RX4 : String := "HouseWires$Harms"
def TX4 : u_T := fun k => match k with
  | 0 => ("HouseWires$Harms", "numbers", "[I", true)
  | 1 => ("HouseWires$Harms", "places", "[I", true)
  | 2 => ("HouseWires$Harms", "turns", "[I", true)
  | _ => ("HouseWires$Harms", "size", "I", false)
def tyX4 : Nat → FieldType := fun k => match k with
  | 0 => .array .int
  | 1 => .array .int
  | 2 => .array .int
  | _ => .int
abbrev wsX40 : List Cond := u_ws RX4 TX4 4
theorem nmX4 : ∀ a, a < 4 → ∀ b, b < 4 → a ≠ b → (TX4 a).2.1 ≠ (TX4 b).2.1 := by decide +kernel
theorem tyX4_ok : ∀ k, k < 4 → parseFieldDescriptor (TX4 k).2.2.1 = some (tyX4 k) := by decide +kernel
abbrev cX4_init : ByteArray := prog_6_method_1_code
def yX4_init : MethodName := ⟨RX4, "<init>", "()V"⟩
abbrev cX4_add : ByteArray := prog_6_method_2_code
def yX4_add : MethodName := ⟨RX4, "add", "(III)Z"⟩
abbrev cX4_turn : ByteArray := prog_6_method_3_code
def yX4_turn : MethodName := ⟨RX4, "turn", "(LHouseWires$Telegram;I)V"⟩
def RX5 : String := "HouseWires$Line"
def TX5 : u_T := fun k => match k with
  | 0 => ("HouseWires$Line", "number", "I", true)
  | 1 => ("HouseWires$Line", "testerOut", "LHouseWires$Row;", true)
  | 2 => ("HouseWires$Line", "stations", "[LHouseWires$Station;", true)
  | 3 => ("HouseWires$Line", "stationCount", "I", false)
  | 4 => ("HouseWires$Line", "deviceCount", "I", false)
  | _ => ("HouseWires$Line", "joined", "I", false)
def tyX5 : Nat → FieldType := fun k => match k with
  | 0 => .int
  | 1 => .object "HouseWires$Row"
  | 2 => .array (.object "HouseWires$Station")
  | 3 => .int
  | 4 => .int
  | _ => .int
abbrev wsX50 : List Cond := u_ws RX5 TX5 6
theorem nmX5 : ∀ a, a < 6 → ∀ b, b < 6 → a ≠ b → (TX5 a).2.1 ≠ (TX5 b).2.1 := by decide +kernel
theorem tyX5_ok : ∀ k, k < 6 → parseFieldDescriptor (TX5 k).2.2.1 = some (tyX5 k) := by decide +kernel
abbrev cX5_init : ByteArray := prog_7_method_1_code
def yX5_init : MethodName := ⟨RX5, "<init>", "(IILHouseWires$Tally;)V"⟩
abbrev cX5_isJoinedWith : ByteArray := prog_7_method_2_code
def yX5_isJoinedWith : MethodName := ⟨RX5, "isJoinedWith", "(I)Z"⟩
abbrev cX5_addDevice : ByteArray := prog_7_method_3_code
def yX5_addDevice : MethodName := ⟨RX5, "addDevice", "(LHouseWires$Device;)V"⟩
abbrev cX5_addPort : ByteArray := prog_7_method_4_code
def yX5_addPort : MethodName := ⟨RX5, "addPort", "(LHouseWires$Port;)V"⟩
abbrev cX5_chooseSender : ByteArray := prog_7_method_5_code
def yX5_chooseSender : MethodName := ⟨RX5, "chooseSender", "()LHouseWires$Row;"⟩
abbrev cX5_goesAhead : ByteArray := prog_7_method_6_code
def yX5_goesAhead : MethodName := ⟨RX5, "goesAhead", "(LHouseWires$Telegram;LHouseWires$Telegram;)Z"⟩
def RX6 : String := "HouseWires$Port"
def TX6 : u_T := fun k => match k with
  | 0 => ("HouseWires$Station", "out", "LHouseWires$Row;", true)
  | 1 => ("HouseWires$Station", "latestDone", "LHouseWires$Telegram;", true)
  | 2 => ("HouseWires$Port", "across", "LHouseWires$Row;", true)
  | 3 => ("HouseWires$Port", "filter", "LHouseWires$Filter;", true)
  | _ => ("HouseWires$Port", "behind", "I", false)
def tyX6 : Nat → FieldType := fun k => match k with
  | 0 => .object "HouseWires$Row"
  | 1 => .object "HouseWires$Telegram"
  | 2 => .object "HouseWires$Row"
  | 3 => .object "HouseWires$Filter"
  | _ => .int
abbrev wsX60 : List Cond := u_ws RX6 TX6 5
theorem nmX6 : ∀ a, a < 5 → ∀ b, b < 5 → a ≠ b → (TX6 a).2.1 ≠ (TX6 b).2.1 := by decide +kernel
theorem tyX6_ok : ∀ k, k < 5 → parseFieldDescriptor (TX6 k).2.2.1 = some (tyX6 k) := by decide +kernel
abbrev cX6_init : ByteArray := prog_8_method_1_code
def yX6_init : MethodName := ⟨RX6, "<init>", "(LHouseWires$Row;LHouseWires$Row;LHouseWires$Filter;I)V"⟩
abbrev cX6_widen : ByteArray := prog_8_method_2_code
def yX6_widen : MethodName := ⟨RX6, "widen", "(IIII)V"⟩
abbrev cX6_hear : ByteArray := prog_8_method_3_code
def yX6_hear : MethodName := ⟨RX6, "hear", "(LHouseWires$Telegram;I)I"⟩
abbrev cX6_learn : ByteArray := prog_8_method_4_code
def yX6_learn : MethodName := ⟨RX6, "learn", "(IZ)V"⟩
abbrev cX6_leadsTo : ByteArray := prog_8_method_5_code
def yX6_leadsTo : MethodName := ⟨RX6, "leadsTo", "(I)Z"⟩
def RX7 : String := "HouseWires$Row"
def TX7 : u_T := fun k => match k with
  | 0 => ("HouseWires$Row", "slots", "[LHouseWires$Telegram;", true)
  | 1 => ("HouseWires$Row", "tally", "LHouseWires$Tally;", true)
  | _ => ("HouseWires$Row", "size", "I", false)
def tyX7 : Nat → FieldType := fun k => match k with
  | 0 => .array (.object "HouseWires$Telegram")
  | 1 => .object "HouseWires$Tally"
  | _ => .int
abbrev wsX70 : List Cond := u_ws RX7 TX7 3
theorem nmX7 : ∀ a, a < 3 → ∀ b, b < 3 → a ≠ b → (TX7 a).2.1 ≠ (TX7 b).2.1 := by decide +kernel
theorem tyX7_ok : ∀ k, k < 3 → parseFieldDescriptor (TX7 k).2.2.1 = some (tyX7 k) := by decide +kernel
abbrev cX7_init : ByteArray := prog_9_method_1_code
def yX7_init : MethodName := ⟨RX7, "<init>", "(LHouseWires$Tally;)V"⟩
abbrev cX7_isFull : ByteArray := prog_9_method_2_code
def yX7_isFull : MethodName := ⟨RX7, "isFull", "()Z"⟩
abbrev cX7_add : ByteArray := prog_9_method_3_code
def yX7_add : MethodName := ⟨RX7, "add", "(LHouseWires$Telegram;)LHouseWires$Telegram;"⟩
abbrev cX7_ready : ByteArray := prog_9_method_4_code
def yX7_ready : MethodName := ⟨RX7, "ready", "()LHouseWires$Telegram;"⟩
abbrev cX7_removeFirst : ByteArray := prog_9_method_5_code
def yX7_removeFirst : MethodName := ⟨RX7, "removeFirst", "()V"⟩
def RX8 : String := "HouseWires$Station"
def TX8 : u_T := fun k => match k with
  | _ => ("", "", "", false)
def tyX8 : Nat → FieldType := fun k => match k with
  | _ => .int
abbrev wsX80 : List Cond := u_ws RX8 TX8 0
theorem nmX8 : ∀ a, a < 0 → ∀ b, b < 0 → a ≠ b → (TX8 a).2.1 ≠ (TX8 b).2.1 := by decide +kernel
theorem tyX8_ok : ∀ k, k < 0 → parseFieldDescriptor (TX8 k).2.2.1 = some (tyX8 k) := by decide +kernel
abbrev cX8_init : ByteArray := prog_10_method_1_code
def yX8_init : MethodName := ⟨RX8, "<init>", "(LHouseWires$Row;)V"⟩
abbrev cX8_didAlready : ByteArray := prog_10_method_4_code
def yX8_didAlready : MethodName := ⟨RX8, "didAlready", "(LHouseWires$Telegram;)Z"⟩
def RX9 : String := "HouseWires$Tally"
def TX9 : u_T := fun k => match k with
  | 0 => ("HouseWires$Tally", "clock", "I", false)
  | 1 => ("HouseWires$Tally", "sent", "I", false)
  | 2 => ("HouseWires$Tally", "done", "I", false)
  | 3 => ("HouseWires$Tally", "lost", "I", false)
  | 4 => ("HouseWires$Tally", "dropped", "I", false)
  | 5 => ("HouseWires$Tally", "passed", "I", false)
  | _ => ("HouseWires$Tally", "inRows", "I", false)
def tyX9 : Nat → FieldType := fun k => match k with
  | 0 => .int
  | 1 => .int
  | 2 => .int
  | 3 => .int
  | 4 => .int
  | 5 => .int
  | _ => .int
abbrev wsX90 : List Cond := u_ws RX9 TX9 7
theorem nmX9 : ∀ a, a < 7 → ∀ b, b < 7 → a ≠ b → (TX9 a).2.1 ≠ (TX9 b).2.1 := by decide +kernel
theorem tyX9_ok : ∀ k, k < 7 → parseFieldDescriptor (TX9 k).2.2.1 = some (tyX9 k) := by decide +kernel
abbrev cX9_init : ByteArray := prog_11_method_1_code
def yX9_init : MethodName := ⟨RX9, "<init>", "()V"⟩
def RX10 : String := "HouseWires$Telegram"
def TX10 : u_T := fun k => match k with
  | 0 => ("HouseWires$Telegram", "bytes", "[I", true)
  | 1 => ("HouseWires$Telegram", "length", "I", false)
  | 2 => ("HouseWires$Telegram", "came", "I", false)
  | 3 => ("HouseWires$Telegram", "sendings", "I", false)
  | _ => ("HouseWires$Telegram", "join", "I", false)
def tyX10 : Nat → FieldType := fun k => match k with
  | 0 => .array .int
  | 1 => .int
  | 2 => .int
  | 3 => .int
  | _ => .int
abbrev wsX100 : List Cond := u_ws RX10 TX10 5
theorem nmX10 : ∀ a, a < 5 → ∀ b, b < 5 → a ≠ b → (TX10 a).2.1 ≠ (TX10 b).2.1 := by decide +kernel
theorem tyX10_ok : ∀ k, k < 5 → parseFieldDescriptor (TX10 k).2.2.1 = some (tyX10 k) := by decide +kernel
abbrev cX10_init : ByteArray := prog_12_method_1_code
def yX10_init : MethodName := ⟨RX10, "<init>", "()V"⟩
abbrev cX10_copyBytes : ByteArray := prog_12_method_2_code
def yX10_copyBytes : MethodName := ⟨RX10, "copyBytes", "(LHouseWires$Telegram;)V"⟩
abbrev cX10_begin : ByteArray := prog_12_method_3_code
def yX10_begin : MethodName := ⟨RX10, "begin", "(IIII)V"⟩
abbrev cX10_append : ByteArray := prog_12_method_4_code
def yX10_append : MethodName := ⟨RX10, "append", "(I)V"⟩
abbrev cX10_seal : ByteArray := prog_12_method_5_code
def yX10_seal : MethodName := ⟨RX10, "seal", "()V"⟩
abbrev cX10_isGood : ByteArray := prog_12_method_6_code
def yX10_isGood : MethodName := ⟨RX10, "isGood", "()Z"⟩
abbrev cX10_isRepeated : ByteArray := prog_12_method_7_code
def yX10_isRepeated : MethodName := ⟨RX10, "isRepeated", "()Z"⟩
abbrev cX10_markRepeated : ByteArray := prog_12_method_8_code
def yX10_markRepeated : MethodName := ⟨RX10, "markRepeated", "()V"⟩
abbrev cX10_isPressing : ByteArray := prog_12_method_9_code
def yX10_isPressing : MethodName := ⟨RX10, "isPressing", "()Z"⟩
abbrev cX10_winsOver : ByteArray := prog_12_method_10_code
def yX10_winsOver : MethodName := ⟨RX10, "winsOver", "(LHouseWires$Telegram;)Z"⟩
abbrev cX10_isLike : ByteArray := prog_12_method_11_code
def yX10_isLike : MethodName := ⟨RX10, "isLike", "(LHouseWires$Telegram;)Z"⟩
abbrev cX10_isOfGroup : ByteArray := prog_12_method_12_code
def yX10_isOfGroup : MethodName := ⟨RX10, "isOfGroup", "()Z"⟩
abbrev cX10_source : ByteArray := prog_12_method_13_code
def yX10_source : MethodName := ⟨RX10, "source", "()I"⟩
abbrev cX10_goal : ByteArray := prog_12_method_14_code
def yX10_goal : MethodName := ⟨RX10, "goal", "()I"⟩
abbrev cX10_hops : ByteArray := prog_12_method_15_code
def yX10_hops : MethodName := ⟨RX10, "hops", "()I"⟩
abbrev cX10_pduLength : ByteArray := prog_12_method_16_code
def yX10_pduLength : MethodName := ⟨RX10, "pduLength", "()I"⟩
abbrev cX10_passOn : ByteArray := prog_12_method_17_code
def yX10_passOn : MethodName := ⟨RX10, "passOn", "()V"⟩
def RX11 : String := "HouseWires"
def TX11 : u_T := fun k => match k with
  | 0 => ("HouseWires", "tally", "LHouseWires$Tally;", true)
  | 1 => ("HouseWires", "lines", "[LHouseWires$Line;", true)
  | 2 => ("HouseWires", "devices", "[LHouseWires$Device;", true)
  | 3 => ("HouseWires", "filters", "[LHouseWires$Filter;", true)
  | 4 => ("HouseWires", "ports", "[LHouseWires$Port;", true)
  | 5 => ("HouseWires", "harms", "LHouseWires$Harms;", true)
  | 6 => ("HouseWires", "tape", "[I", true)
  | 7 => ("HouseWires", "latest", "LHouseWires$Telegram;", true)
  | 8 => ("HouseWires", "heard", "LHouseWires$Telegram;", true)
  | 9 => ("HouseWires", "lineCount", "I", false)
  | 10 => ("HouseWires", "deviceCount", "I", false)
  | 11 => ("HouseWires", "couplerCount", "I", false)
  | 12 => ("HouseWires", "tapeLength", "I", false)
  | 13 => ("HouseWires", "latestLine", "I", false)
  | _ => ("HouseWires", "latestAnswer", "I", false)
def tyX11 : Nat → FieldType := fun k => match k with
  | 0 => .object "HouseWires$Tally"
  | 1 => .array (.object "HouseWires$Line")
  | 2 => .array (.object "HouseWires$Device")
  | 3 => .array (.object "HouseWires$Filter")
  | 4 => .array (.object "HouseWires$Port")
  | 5 => .object "HouseWires$Harms"
  | 6 => .array .int
  | 7 => .object "HouseWires$Telegram"
  | 8 => .object "HouseWires$Telegram"
  | 9 => .int
  | 10 => .int
  | 11 => .int
  | 12 => .int
  | 13 => .int
  | _ => .int
abbrev wsX110 : List Cond := u_ws RX11 TX11 15
theorem nmX11 : ∀ a, a < 15 → ∀ b, b < 15 → a ≠ b → (TX11 a).2.1 ≠ (TX11 b).2.1 := by decide +kernel
theorem tyX11_ok : ∀ k, k < 15 → parseFieldDescriptor (TX11 k).2.2.1 = some (tyX11 k) := by decide +kernel
abbrev cX11_init : ByteArray := prog_1_method_1_code
def yX11_init : MethodName := ⟨RX11, "<init>", "()V"⟩
abbrev cX11_line : ByteArray := prog_1_method_2_code
def yX11_line : MethodName := ⟨RX11, "line", "(I)I"⟩
abbrev cX11_device : ByteArray := prog_1_method_3_code
def yX11_device : MethodName := ⟨RX11, "device", "(II)I"⟩
abbrev cX11_coupler : ByteArray := prog_1_method_4_code
def yX11_coupler : MethodName := ⟨RX11, "coupler", "(II)I"⟩
abbrev cX11_mode : ByteArray := prog_1_method_5_code
def yX11_mode : MethodName := ⟨RX11, "mode", "(II)Z"⟩
abbrev cX11_filter : ByteArray := prog_1_method_6_code
def yX11_filter : MethodName := ⟨RX11, "filter", "(IIZ)Z"⟩
abbrev cX11_object : ByteArray := prog_1_method_7_code
def yX11_object : MethodName := ⟨RX11, "object", "(IIII)I"⟩
abbrev cX11_flags : ByteArray := prog_1_method_8_code
def yX11_flags : MethodName := ⟨RX11, "flags", "(III)Z"⟩
abbrev cX11_link : ByteArray := prog_1_method_9_code
def yX11_link : MethodName := ⟨RX11, "link", "(III)Z"⟩
abbrev cX11_set : ByteArray := prog_1_method_10_code
def yX11_set : MethodName := ⟨RX11, "set", "(III)I"⟩
abbrev cX11_ask : ByteArray := prog_1_method_11_code
def yX11_ask : MethodName := ⟨RX11, "ask", "(II)I"⟩
abbrev cX11_value : ByteArray := prog_1_method_12_code
def yX11_value : MethodName := ⟨RX11, "value", "(II)J"⟩
abbrev cX11_updated : ByteArray := prog_1_method_13_code
def yX11_updated : MethodName := ⟨RX11, "updated", "(II)I"⟩
abbrev cX11_hundredths : ByteArray := prog_1_method_14_code
def yX11_hundredths : MethodName := ⟨RX11, "hundredths", "(II)J"⟩
abbrev cX11_point : ByteArray := prog_1_method_15_code
def yX11_point : MethodName := ⟨RX11, "point", "(III)I"⟩
abbrev cX11_connect : ByteArray := prog_1_method_16_code
def yX11_connect : MethodName := ⟨RX11, "connect", "(II)Z"⟩
abbrev cX11_disconnect : ByteArray := prog_1_method_17_code
def yX11_disconnect : MethodName := ⟨RX11, "disconnect", "(I)Z"⟩
abbrev cX11_peek : ByteArray := prog_1_method_18_code
def yX11_peek : MethodName := ⟨RX11, "peek", "(III)Z"⟩
abbrev cX11_poke : ByteArray := prog_1_method_19_code
def yX11_poke : MethodName := ⟨RX11, "poke", "(IIII)Z"⟩
abbrev cX11_memory : ByteArray := prog_1_method_20_code
def yX11_memory : MethodName := ⟨RX11, "memory", "(II)I"⟩
abbrev cX11_store : ByteArray := prog_1_method_21_code
def yX11_store : MethodName := ⟨RX11, "store", "(III)Z"⟩
abbrev cX11_reply : ByteArray := prog_1_method_22_code
def yX11_reply : MethodName := ⟨RX11, "reply", "(II)I"⟩
abbrev cX11_connection : ByteArray := prog_1_method_23_code
def yX11_connection : MethodName := ⟨RX11, "connection", "(II)I"⟩
abbrev cX11_busy : ByteArray := prog_1_method_24_code
def yX11_busy : MethodName := ⟨RX11, "busy", "(II)Z"⟩
abbrev cX11_feed : ByteArray := prog_1_method_25_code
def yX11_feed : MethodName := ⟨RX11, "feed", "(IIIII)I"⟩
abbrev cX11_end : ByteArray := prog_1_method_26_code
def yX11_end : MethodName := ⟨RX11, "end", "(I)I"⟩
abbrev cX11_raw : ByteArray := prog_1_method_27_code
def yX11_raw : MethodName := ⟨RX11, "raw", "(I)I"⟩
abbrev cX11_harm : ByteArray := prog_1_method_28_code
def yX11_harm : MethodName := ⟨RX11, "harm", "(III)Z"⟩
abbrev cX11_step : ByteArray := prog_1_method_29_code
def yX11_step : MethodName := ⟨RX11, "step", "(I)I"⟩
abbrev cX11_sent : ByteArray := prog_1_method_30_code
def yX11_sent : MethodName := ⟨RX11, "sent", "(I)I"⟩
abbrev cX11_count : ByteArray := prog_1_method_31_code
def yX11_count : MethodName := ⟨RX11, "count", "(I)I"⟩
abbrev cX11_isWithin : ByteArray := prog_1_method_32_code
def yX11_isWithin : MethodName := ⟨RX11, "isWithin", "(III)Z"⟩
abbrev cX11_lineAt : ByteArray := prog_1_method_33_code
def yX11_lineAt : MethodName := ⟨RX11, "lineAt", "(I)LHouseWires$Line;"⟩
abbrev cX11_deviceAt : ByteArray := prog_1_method_34_code
def yX11_deviceAt : MethodName := ⟨RX11, "deviceAt", "(I)LHouseWires$Device;"⟩
abbrev cX11_filterAt : ByteArray := prog_1_method_35_code
def yX11_filterAt : MethodName := ⟨RX11, "filterAt", "(I)LHouseWires$Filter;"⟩
abbrev cX11_objectAt : ByteArray := prog_1_method_36_code
def yX11_objectAt : MethodName := ⟨RX11, "objectAt", "(II)LHouseWires$GroupObject;"⟩
abbrev cX11_lineOfNumber : ByteArray := prog_1_method_37_code
def yX11_lineOfNumber : MethodName := ⟨RX11, "lineOfNumber", "(I)I"⟩
abbrev cX11_hasDeviceOf : ByteArray := prog_1_method_38_code
def yX11_hasDeviceOf : MethodName := ⟨RX11, "hasDeviceOf", "(I)Z"⟩
abbrev cX11_joinLines : ByteArray := prog_1_method_39_code
def yX11_joinLines : MethodName := ⟨RX11, "joinLines", "(IIII)V"⟩
abbrev cX11_withPoint : ByteArray := prog_1_method_40_code
def yX11_withPoint : MethodName := ⟨RX11, "withPoint", "(I)I"⟩
abbrev cX11_feedNumber : ByteArray := prog_1_method_41_code
def yX11_feedNumber : MethodName := ⟨RX11, "feedNumber", "(I)V"⟩
abbrev cX11_transmit : ByteArray := prog_1_method_42_code
def yX11_transmit : MethodName := ⟨RX11, "transmit", "(ILHouseWires$Row;)V"⟩
abbrev cX11_putOnWire : ByteArray := prog_1_method_43_code
def yX11_putOnWire : MethodName := ⟨RX11, "putOnWire", "(LHouseWires$Telegram;I)V"⟩
abbrev cX11_finish : ByteArray := prog_1_method_44_code
def yX11_finish : MethodName := ⟨RX11, "finish", "(LHouseWires$Row;LHouseWires$Station;Z)V"⟩
def RX12 : String := "HouseWiresModel$Coupler"
def TX12 : u_T := fun k => match k with
  | 0 => ("HouseWiresModel$Coupler", "line", "[I", true)
  | 1 => ("HouseWiresModel$Coupler", "mode", "I", false)
  | 2 => ("HouseWiresModel$Coupler", "filter", "[I", true)
  | 3 => ("HouseWiresModel$Coupler", "filters", "I", false)
  | 4 => ("HouseWiresModel$Coupler", "out", "[LHouseWiresModel$Out;", true)
  | 5 => ("HouseWiresModel$Coupler", "latest", "[[I", true)
  | _ => ("HouseWiresModel$Coupler", "latestSize", "[I", true)
def tyX12 : Nat → FieldType := fun k => match k with
  | 0 => .array .int
  | 1 => .int
  | 2 => .array .int
  | 3 => .int
  | 4 => .array (.object "HouseWiresModel$Out")
  | 5 => .array (.array .int)
  | _ => .array .int
abbrev wsX120 : List Cond := u_ws RX12 TX12 7
theorem nmX12 : ∀ a, a < 7 → ∀ b, b < 7 → a ≠ b → (TX12 a).2.1 ≠ (TX12 b).2.1 := by decide +kernel
theorem tyX12_ok : ∀ k, k < 7 → parseFieldDescriptor (TX12 k).2.2.1 = some (tyX12 k) := by decide +kernel
abbrev cX12_init : ByteArray := prog_15_method_1_code
def yX12_init : MethodName := ⟨RX12, "<init>", "()V"⟩
def RX13 : String := "HouseWiresModel$Device"
def TX13 : u_T := fun k => match k with
  | 0 => ("HouseWiresModel$Device", "line", "I", false)
  | 1 => ("HouseWiresModel$Device", "address", "I", false)
  | 2 => ("HouseWiresModel$Device", "out", "LHouseWiresModel$Out;", true)
  | 3 => ("HouseWiresModel$Device", "busy", "I", false)
  | 4 => ("HouseWiresModel$Device", "latest", "[I", true)
  | 5 => ("HouseWiresModel$Device", "latestSize", "I", false)
  | 6 => ("HouseWiresModel$Device", "objects", "I", false)
  | 7 => ("HouseWiresModel$Device", "bits", "[I", true)
  | 8 => ("HouseWiresModel$Device", "value", "[I", true)
  | 9 => ("HouseWiresModel$Device", "priority", "[I", true)
  | 10 => ("HouseWiresModel$Device", "flags", "[I", true)
  | 11 => ("HouseWiresModel$Device", "updates", "[I", true)
  | 12 => ("HouseWiresModel$Device", "links", "I", false)
  | 13 => ("HouseWiresModel$Device", "linkObject", "[I", true)
  | 14 => ("HouseWiresModel$Device", "linkGroup", "[I", true)
  | 15 => ("HouseWiresModel$Device", "memory", "[I", true)
  | 16 => ("HouseWiresModel$Device", "reply", "[I", true)
  | 17 => ("HouseWiresModel$Device", "replySize", "I", false)
  | 18 => ("HouseWiresModel$Device", "how", "I", false)
  | 19 => ("HouseWiresModel$Device", "partner", "I", false)
  | 20 => ("HouseWiresModel$Device", "sent", "I", false)
  | 21 => ("HouseWiresModel$Device", "got", "I", false)
  | 22 => ("HouseWiresModel$Device", "tries", "I", false)
  | 23 => ("HouseWiresModel$Device", "pause", "I", false)
  | 24 => ("HouseWiresModel$Device", "idle", "I", false)
  | 25 => ("HouseWiresModel$Device", "opening", "I", false)
  | 26 => ("HouseWiresModel$Device", "data", "[I", true)
  | _ => ("HouseWiresModel$Device", "dataSize", "I", false)
def tyX13 : Nat → FieldType := fun k => match k with
  | 0 => .int
  | 1 => .int
  | 2 => .object "HouseWiresModel$Out"
  | 3 => .int
  | 4 => .array .int
  | 5 => .int
  | 6 => .int
  | 7 => .array .int
  | 8 => .array .int
  | 9 => .array .int
  | 10 => .array .int
  | 11 => .array .int
  | 12 => .int
  | 13 => .array .int
  | 14 => .array .int
  | 15 => .array .int
  | 16 => .array .int
  | 17 => .int
  | 18 => .int
  | 19 => .int
  | 20 => .int
  | 21 => .int
  | 22 => .int
  | 23 => .int
  | 24 => .int
  | 25 => .int
  | 26 => .array .int
  | _ => .int
abbrev wsX130 : List Cond := u_ws RX13 TX13 28
theorem nmX13 : ∀ a, a < 28 → ∀ b, b < 28 → a ≠ b → (TX13 a).2.1 ≠ (TX13 b).2.1 := by decide +kernel
theorem tyX13_ok : ∀ k, k < 28 → parseFieldDescriptor (TX13 k).2.2.1 = some (tyX13 k) := by decide +kernel
abbrev cX13_init : ByteArray := prog_16_method_1_code
def yX13_init : MethodName := ⟨RX13, "<init>", "()V"⟩
def RX14 : String := "HouseWiresModel$Out"
def TX14 : u_T := fun k => match k with
  | 0 => ("HouseWiresModel$Out", "bytes", "[[I", true)
  | 1 => ("HouseWiresModel$Out", "size", "[I", true)
  | 2 => ("HouseWiresModel$Out", "came", "[I", true)
  | 3 => ("HouseWiresModel$Out", "times", "[I", true)
  | 4 => ("HouseWiresModel$Out", "id", "[I", true)
  | _ => ("HouseWiresModel$Out", "many", "I", false)
def tyX14 : Nat → FieldType := fun k => match k with
  | 0 => .array (.array .int)
  | 1 => .array .int
  | 2 => .array .int
  | 3 => .array .int
  | 4 => .array .int
  | _ => .int
abbrev wsX140 : List Cond := u_ws RX14 TX14 6
theorem nmX14 : ∀ a, a < 6 → ∀ b, b < 6 → a ≠ b → (TX14 a).2.1 ≠ (TX14 b).2.1 := by decide +kernel
theorem tyX14_ok : ∀ k, k < 6 → parseFieldDescriptor (TX14 k).2.2.1 = some (tyX14 k) := by decide +kernel
abbrev cX14_init : ByteArray := prog_17_method_1_code
def yX14_init : MethodName := ⟨RX14, "<init>", "()V"⟩
abbrev cX14_goes : ByteArray := prog_17_method_2_code
def yX14_goes : MethodName := ⟨RX14, "goes", "()V"⟩
def RX15 : String := "HouseWiresModel"
def TX15 : u_T := fun k => match k with
  | 0 => ("HouseWiresModel", "thrown", "I", false)
  | 1 => ("HouseWiresModel", "clock", "I", false)
  | 2 => ("HouseWiresModel", "ids", "I", false)
  | 3 => ("HouseWiresModel", "dropped", "I", false)
  | 4 => ("HouseWiresModel", "lines", "I", false)
  | 5 => ("HouseWiresModel", "lineNumber", "[I", true)
  | 6 => ("HouseWiresModel", "testers", "[LHouseWiresModel$Out;", true)
  | 7 => ("HouseWiresModel", "deviceMany", "I", false)
  | 8 => ("HouseWiresModel", "devices", "[LHouseWiresModel$Device;", true)
  | 9 => ("HouseWiresModel", "couplerMany", "I", false)
  | 10 => ("HouseWiresModel", "couplers", "[LHouseWiresModel$Coupler;", true)
  | 11 => ("HouseWiresModel", "made", "[I", true)
  | 12 => ("HouseWiresModel", "one", "[I", true)
  | 13 => ("HouseWiresModel", "act", "[I", true)
  | 14 => ("HouseWiresModel", "answer", "[I", true)
  | 15 => ("HouseWiresModel", "sentAll", "I", false)
  | 16 => ("HouseWiresModel", "done", "I", false)
  | 17 => ("HouseWiresModel", "lost", "I", false)
  | 18 => ("HouseWiresModel", "passed", "I", false)
  | 19 => ("HouseWiresModel", "latestAnswer", "I", false)
  | 20 => ("HouseWiresModel", "latestLine", "I", false)
  | 21 => ("HouseWiresModel", "latest", "[I", true)
  | 22 => ("HouseWiresModel", "latestSize", "I", false)
  | 23 => ("HouseWiresModel", "harmOf", "[I", true)
  | 24 => ("HouseWiresModel", "harmPlace", "[I", true)
  | 25 => ("HouseWiresModel", "harmBy", "[I", true)
  | 26 => ("HouseWiresModel", "harms", "I", false)
  | 27 => ("HouseWiresModel", "outs", "[LHouseWiresModel$Out;", true)
  | 28 => ("HouseWiresModel", "who", "[I", true)
  | 29 => ("HouseWiresModel", "wants", "[Z", true)
  | 30 => ("HouseWiresModel", "stations", "I", false)
  | 31 => ("HouseWiresModel", "heard", "[I", true)
  | 32 => ("HouseWiresModel", "heardSize", "I", false)
  | 33 => ("HouseWiresModel", "pdu", "[I", true)
  | 34 => ("HouseWiresModel", "onward", "[I", true)
  | 35 => ("HouseWiresModel", "reached", "[Z", true)
  | 36 => ("HouseWiresModel", "answersMet", "[Z", true)
  | 37 => ("HouseWiresModel", "order", "[I", true)
  | 38 => ("HouseWiresModel", "tape", "[I", true)
  | _ => ("HouseWiresModel", "taped", "I", false)
def tyX15 : Nat → FieldType := fun k => match k with
  | 0 => .int
  | 1 => .int
  | 2 => .int
  | 3 => .int
  | 4 => .int
  | 5 => .array .int
  | 6 => .array (.object "HouseWiresModel$Out")
  | 7 => .int
  | 8 => .array (.object "HouseWiresModel$Device")
  | 9 => .int
  | 10 => .array (.object "HouseWiresModel$Coupler")
  | 11 => .array .int
  | 12 => .array .int
  | 13 => .array .int
  | 14 => .array .int
  | 15 => .int
  | 16 => .int
  | 17 => .int
  | 18 => .int
  | 19 => .int
  | 20 => .int
  | 21 => .array .int
  | 22 => .int
  | 23 => .array .int
  | 24 => .array .int
  | 25 => .array .int
  | 26 => .int
  | 27 => .array (.object "HouseWiresModel$Out")
  | 28 => .array .int
  | 29 => .array .boolean
  | 30 => .int
  | 31 => .array .int
  | 32 => .int
  | 33 => .array .int
  | 34 => .array .int
  | 35 => .array .boolean
  | 36 => .array .boolean
  | 37 => .array .int
  | 38 => .array .int
  | _ => .int
abbrev wsX150 : List Cond := u_ws RX15 TX15 40
theorem nmX15 : ∀ a, a < 40 → ∀ b, b < 40 → a ≠ b → (TX15 a).2.1 ≠ (TX15 b).2.1 := by decide +kernel
theorem tyX15_ok : ∀ k, k < 40 → parseFieldDescriptor (TX15 k).2.2.1 = some (tyX15 k) := by decide +kernel
abbrev cX15_init : ByteArray := prog_14_method_1_code
def yX15_init : MethodName := ⟨RX15, "<init>", "()V"⟩
abbrev cX15_thrown : ByteArray := prog_14_method_2_code
def yX15_thrown : MethodName := ⟨RX15, "thrown", "()I"⟩
abbrev cX15_in : ByteArray := prog_14_method_3_code
def yX15_in : MethodName := ⟨RX15, "in", "(III)Z"⟩
abbrev cX15_comes : ByteArray := prog_14_method_4_code
def yX15_comes : MethodName := ⟨RX15, "comes", "(LHouseWiresModel$Out;[II)I"⟩
abbrev cX15_checkOf : ByteArray := prog_14_method_5_code
def yX15_checkOf : MethodName := ⟨RX15, "checkOf", "([II)I"⟩
abbrev cX15_isGood : ByteArray := prog_14_method_6_code
def yX15_isGood : MethodName := ⟨RX15, "isGood", "([II)Z"⟩
abbrev cX15_goalOf : ByteArray := prog_14_method_7_code
def yX15_goalOf : MethodName := ⟨RX15, "goalOf", "([I)I"⟩
abbrev cX15_sourceOf : ByteArray := prog_14_method_8_code
def yX15_sourceOf : MethodName := ⟨RX15, "sourceOf", "([I)I"⟩
abbrev cX15_isRepeated : ByteArray := prog_14_method_9_code
def yX15_isRepeated : MethodName := ⟨RX15, "isRepeated", "([I)Z"⟩
abbrev cX15_isStrong : ByteArray := prog_14_method_10_code
def yX15_isStrong : MethodName := ⟨RX15, "isStrong", "([I)Z"⟩
abbrev cX15_isLike : ByteArray := prog_14_method_11_code
def yX15_isLike : MethodName := ⟨RX15, "isLike", "([II[II)Z"⟩
abbrev cX15_isLine : ByteArray := prog_14_method_12_code
def yX15_isLine : MethodName := ⟨RX15, "isLine", "(I)Z"⟩
abbrev cX15_isDevice : ByteArray := prog_14_method_13_code
def yX15_isDevice : MethodName := ⟨RX15, "isDevice", "(I)Z"⟩
abbrev cX15_isCoupler : ByteArray := prog_14_method_14_code
def yX15_isCoupler : MethodName := ⟨RX15, "isCoupler", "(I)Z"⟩
abbrev cX15_isObject : ByteArray := prog_14_method_15_code
def yX15_isObject : MethodName := ⟨RX15, "isObject", "(II)Z"⟩
abbrev cX15_tells : ByteArray := prog_14_method_16_code
def yX15_tells : MethodName := ⟨RX15, "tells", "(LHouseWiresModel$Device;IZI[II)I"⟩
abbrev cX15_tellsOne : ByteArray := prog_14_method_17_code
def yX15_tellsOne : MethodName := ⟨RX15, "tellsOne", "(LHouseWiresModel$Device;II)I"⟩
abbrev cX15_cut : ByteArray := prog_14_method_18_code
def yX15_cut : MethodName := ⟨RX15, "cut", "(II)I"⟩
abbrev cX15_bytesOf : ByteArray := prog_14_method_19_code
def yX15_bytesOf : MethodName := ⟨RX15, "bytesOf", "(I)I"⟩
abbrev cX15_tellsValue : ByteArray := prog_14_method_20_code
def yX15_tellsValue : MethodName := ⟨RX15, "tellsValue", "(LHouseWiresModel$Device;III)V"⟩
abbrev cX15_ownGroup : ByteArray := prog_14_method_21_code
def yX15_ownGroup : MethodName := ⟨RX15, "ownGroup", "(LHouseWiresModel$Device;I)I"⟩
abbrev cX15_hasLink : ByteArray := prog_14_method_22_code
def yX15_hasLink : MethodName := ⟨RX15, "hasLink", "(LHouseWiresModel$Device;I)Z"⟩
abbrev cX15_doesGroup : ByteArray := prog_14_method_23_code
def yX15_doesGroup : MethodName := ⟨RX15, "doesGroup", "(LHouseWiresModel$Device;[III)V"⟩
abbrev cX15_closes : ByteArray := prog_14_method_24_code
def yX15_closes : MethodName := ⟨RX15, "closes", "(LHouseWiresModel$Device;)V"⟩
abbrev cX15_sendsData : ByteArray := prog_14_method_25_code
def yX15_sendsData : MethodName := ⟨RX15, "sendsData", "(LHouseWiresModel$Device;[II)V"⟩
abbrev cX15_again : ByteArray := prog_14_method_26_code
def yX15_again : MethodName := ⟨RX15, "again", "(LHouseWiresModel$Device;)V"⟩
abbrev cX15_doesAddress : ByteArray := prog_14_method_27_code
def yX15_doesAddress : MethodName := ⟨RX15, "doesAddress", "(LHouseWiresModel$Device;[III)V"⟩
abbrev cX15_opens : ByteArray := prog_14_method_28_code
def yX15_opens : MethodName := ⟨RX15, "opens", "(LHouseWiresModel$Device;I)V"⟩
abbrev cX15_answers : ByteArray := prog_14_method_29_code
def yX15_answers : MethodName := ⟨RX15, "answers", "(LHouseWiresModel$Device;II)V"⟩
abbrev cX15_data : ByteArray := prog_14_method_30_code
def yX15_data : MethodName := ⟨RX15, "data", "(LHouseWiresModel$Device;[III)V"⟩
abbrev cX15_orders : ByteArray := prog_14_method_31_code
def yX15_orders : MethodName := ⟨RX15, "orders", "(LHouseWiresModel$Device;[II)V"⟩
abbrev cX15_times : ByteArray := prog_14_method_32_code
def yX15_times : MethodName := ⟨RX15, "times", "(LHouseWiresModel$Device;)V"⟩
abbrev cX15_stands : ByteArray := prog_14_method_33_code
def yX15_stands : MethodName := ⟨RX15, "stands", "(LHouseWiresModel$Out;I)V"⟩
abbrev cX15_gather : ByteArray := prog_14_method_34_code
def yX15_gather : MethodName := ⟨RX15, "gather", "(I)V"⟩
abbrev cX15_bitOf : ByteArray := prog_14_method_35_code
def yX15_bitOf : MethodName := ⟨RX15, "bitOf", "(LHouseWiresModel$Out;II)I"⟩
abbrev cX15_winner : ByteArray := prog_14_method_36_code
def yX15_winner : MethodName := ⟨RX15, "winner", "()I"⟩
abbrev cX15_hears : ByteArray := prog_14_method_37_code
def yX15_hears : MethodName := ⟨RX15, "hears", "(LHouseWiresModel$Out;)V"⟩
abbrev cX15_answerOf : ByteArray := prog_14_method_38_code
def yX15_answerOf : MethodName := ⟨RX15, "answerOf", "(IZ)I"⟩
abbrev cX15_answerDevice : ByteArray := prog_14_method_39_code
def yX15_answerDevice : MethodName := ⟨RX15, "answerDevice", "(LHouseWiresModel$Device;)I"⟩
abbrev cX15_answerCoupler : ByteArray := prog_14_method_40_code
def yX15_answerCoupler : MethodName := ⟨RX15, "answerCoupler", "(LHouseWiresModel$Coupler;II)I"⟩
abbrev cX15_passes : ByteArray := prog_14_method_41_code
def yX15_passes : MethodName := ⟨RX15, "passes", "(LHouseWiresModel$Coupler;II)Z"⟩
abbrev cX15_lineOf : ByteArray := prog_14_method_42_code
def yX15_lineOf : MethodName := ⟨RX15, "lineOf", "(I)I"⟩
abbrev cX15_isJoined : ByteArray := prog_14_method_43_code
def yX15_isJoined : MethodName := ⟨RX15, "isJoined", "(III)Z"⟩
abbrev cX15_goesOn : ByteArray := prog_14_method_44_code
def yX15_goesOn : MethodName := ⟨RX15, "goesOn", "(I)V"⟩
abbrev cX15_ends : ByteArray := prog_14_method_45_code
def yX15_ends : MethodName := ⟨RX15, "ends", "(LHouseWiresModel$Out;I)V"⟩
abbrev cX15_line : ByteArray := prog_14_method_46_code
def yX15_line : MethodName := ⟨RX15, "line", "(I)I"⟩
abbrev cX15_device : ByteArray := prog_14_method_47_code
def yX15_device : MethodName := ⟨RX15, "device", "(II)I"⟩
abbrev cX15_coupler : ByteArray := prog_14_method_48_code
def yX15_coupler : MethodName := ⟨RX15, "coupler", "(II)I"⟩
abbrev cX15_mode : ByteArray := prog_14_method_49_code
def yX15_mode : MethodName := ⟨RX15, "mode", "(II)Z"⟩
abbrev cX15_filter : ByteArray := prog_14_method_50_code
def yX15_filter : MethodName := ⟨RX15, "filter", "(IIZ)Z"⟩
abbrev cX15_object : ByteArray := prog_14_method_51_code
def yX15_object : MethodName := ⟨RX15, "object", "(IIII)I"⟩
abbrev cX15_flags : ByteArray := prog_14_method_52_code
def yX15_flags : MethodName := ⟨RX15, "flags", "(III)Z"⟩
abbrev cX15_link : ByteArray := prog_14_method_53_code
def yX15_link : MethodName := ⟨RX15, "link", "(III)Z"⟩
abbrev cX15_sets : ByteArray := prog_14_method_54_code
def yX15_sets : MethodName := ⟨RX15, "sets", "(LHouseWiresModel$Device;II)I"⟩
abbrev cX15_set : ByteArray := prog_14_method_55_code
def yX15_set : MethodName := ⟨RX15, "set", "(III)I"⟩
abbrev cX15_ask : ByteArray := prog_14_method_56_code
def yX15_ask : MethodName := ⟨RX15, "ask", "(II)I"⟩
abbrev cX15_value : ByteArray := prog_14_method_57_code
def yX15_value : MethodName := ⟨RX15, "value", "(II)J"⟩
abbrev cX15_updated : ByteArray := prog_14_method_58_code
def yX15_updated : MethodName := ⟨RX15, "updated", "(II)I"⟩
abbrev cX15_hundredths : ByteArray := prog_14_method_59_code
def yX15_hundredths : MethodName := ⟨RX15, "hundredths", "(II)J"⟩
abbrev cX15_point : ByteArray := prog_14_method_60_code
def yX15_point : MethodName := ⟨RX15, "point", "(III)I"⟩
abbrev cX15_connect : ByteArray := prog_14_method_61_code
def yX15_connect : MethodName := ⟨RX15, "connect", "(II)Z"⟩
abbrev cX15_disconnect : ByteArray := prog_14_method_62_code
def yX15_disconnect : MethodName := ⟨RX15, "disconnect", "(I)Z"⟩
abbrev cX15_mayOrder : ByteArray := prog_14_method_63_code
def yX15_mayOrder : MethodName := ⟨RX15, "mayOrder", "(IIII)Z"⟩
abbrev cX15_peek : ByteArray := prog_14_method_64_code
def yX15_peek : MethodName := ⟨RX15, "peek", "(III)Z"⟩
abbrev cX15_poke : ByteArray := prog_14_method_65_code
def yX15_poke : MethodName := ⟨RX15, "poke", "(IIII)Z"⟩
abbrev cX15_memory : ByteArray := prog_14_method_66_code
def yX15_memory : MethodName := ⟨RX15, "memory", "(II)I"⟩
abbrev cX15_store : ByteArray := prog_14_method_67_code
def yX15_store : MethodName := ⟨RX15, "store", "(III)Z"⟩
abbrev cX15_reply : ByteArray := prog_14_method_68_code
def yX15_reply : MethodName := ⟨RX15, "reply", "(II)I"⟩
abbrev cX15_connection : ByteArray := prog_14_method_69_code
def yX15_connection : MethodName := ⟨RX15, "connection", "(II)I"⟩
abbrev cX15_busy : ByteArray := prog_14_method_70_code
def yX15_busy : MethodName := ⟨RX15, "busy", "(II)Z"⟩
abbrev cX15_feed : ByteArray := prog_14_method_71_code
def yX15_feed : MethodName := ⟨RX15, "feed", "(IIIII)I"⟩
abbrev cX15_end : ByteArray := prog_14_method_72_code
def yX15_end : MethodName := ⟨RX15, "end", "(I)I"⟩
abbrev cX15_raw : ByteArray := prog_14_method_73_code
def yX15_raw : MethodName := ⟨RX15, "raw", "(I)I"⟩
abbrev cX15_harm : ByteArray := prog_14_method_74_code
def yX15_harm : MethodName := ⟨RX15, "harm", "(III)Z"⟩
abbrev cX15_step : ByteArray := prog_14_method_75_code
def yX15_step : MethodName := ⟨RX15, "step", "(I)I"⟩
abbrev cX15_sent : ByteArray := prog_14_method_76_code
def yX15_sent : MethodName := ⟨RX15, "sent", "(I)I"⟩
abbrev cX15_count : ByteArray := prog_14_method_77_code
def yX15_count : MethodName := ⟨RX15, "count", "(I)I"⟩
def RJ9 : String := "java/lang/Math"
def TJ9 : u_T := fun k => match k with
  | _ => ("", "", "", false)
def tyJ9 : Nat → FieldType := fun k => match k with
  | _ => .int
abbrev wsJ90 : List Cond := u_ws RJ9 TJ9 0
theorem nmJ9 : ∀ a, a < 0 → ∀ b, b < 0 → a ≠ b → (TJ9 a).2.1 ≠ (TJ9 b).2.1 := by decide +kernel
theorem tyJ9_ok : ∀ k, k < 0 → parseFieldDescriptor (TJ9 k).2.2.1 = some (tyJ9 k) := by decide +kernel
abbrev cJ9_max_7cf53 : ByteArray := prog_20_method_65_code
def yJ9_max_7cf53 : MethodName := ⟨RJ9, "max", "(II)I"⟩
def RJ0 : String := "java/lang/String"
def TJ0 : u_T := fun k => match k with
  | _ => ("", "", "", false)
def tyJ0 : Nat → FieldType := fun k => match k with
  | _ => .int
abbrev wsJ00 : List Cond := u_ws RJ0 TJ0 0
theorem nmJ0 : ∀ a, a < 0 → ∀ b, b < 0 → a ≠ b → (TJ0 a).2.1 ≠ (TJ0 b).2.1 := by decide +kernel
theorem tyJ0_ok : ∀ k, k < 0 → parseFieldDescriptor (TJ0 k).2.2.1 = some (tyJ0 k) := by decide +kernel
def RJ10 : String := "java/lang/System"
def TJ10 : u_T := fun k => match k with
  | _ => ("", "", "", false)
def tyJ10 : Nat → FieldType := fun k => match k with
  | _ => .int
abbrev wsJ100 : List Cond := u_ws RJ10 TJ10 0
theorem nmJ10 : ∀ a, a < 0 → ∀ b, b < 0 → a ≠ b → (TJ10 a).2.1 ≠ (TJ10 b).2.1 := by decide +kernel
theorem tyJ10_ok : ∀ k, k < 0 → parseFieldDescriptor (TJ10 k).2.2.1 = some (tyJ10 k) := by decide +kernel
def RL : String := "HouseWiresLaw"
abbrev cL_step : ByteArray := method_3_code
def yL_step : MethodName := ⟨RL, "step", "(LHouseWires;I[J)I"⟩
abbrev cL_sent : ByteArray := method_4_code
def yL_sent : MethodName := ⟨RL, "sent", "(LHouseWires;I[J)I"⟩
abbrev cL_law : ByteArray := code
def yL_law : MethodName := ⟨RL, "law", "([I)Z"⟩
abbrev vwCl : List vw_C := [(RX0, TX0, 15), (RX1, TX1, 11), (RX2, TX2, 3), (RX3, TX3, 5), (RX4, TX4, 4), (RX5, TX5, 6), (RX6, TX6, 5), (RX7, TX7, 3), (RX9, TX9, 7), (RX10, TX10, 5), (RX11, TX11, 15), (RX12, TX12, 7), (RX13, TX13, 28), (RX14, TX14, 6), (RX15, TX15, 40)]
end
section
/-! ===== our own layer over the kit: the memory of one side as functions of the address ===== -/
/-- kind of the cell at an address (0: none; 1 + i: an object of class i; 100 + t: an array of type t), its length, its ints, its references -/
abbrev zM : Type := (Nat → Nat) × (Nat → Nat) × (Nat → Nat → Int32) × (Nat → Nat → Option Nat)
/-- an object's fields by its layout: true where a field is a reference -/
def zF : List Bool → Nat → (Nat → Int32) → (Nat → Option Nat) → List Value
  | [], _, _, _ => []
  | b :: l, k, i, r => (if b then va_rf (r k) else Value.int (i k)) :: zF l (k + 1) i r
theorem zF_get : ∀ (l : List Bool) (k j : Nat) (i : Nat → Int32) (r : Nat → Option Nat) (b : Bool), l[j]? = some b → (zF l k i r)[j]? = some (if b then va_rf (r (k + j)) else Value.int (i (k + j)))
  | [], _, _, _, _, _, h => by simp at h
  | c :: l, k, 0, i, r, b, h => by
    simp at h
    subst h
    simp [zF]
  | c :: l, k, j + 1, i, r, b, h => by
    rw [List.getElem?_cons_succ] at h
    have h1 := zF_get l (k + 1) j i r b h
    rw [zF, List.getElem?_cons_succ, h1]
    rw [show k + 1 + j = k + (j + 1) by omega]
theorem zF_len : ∀ (l : List Bool) (k : Nat) (i : Nat → Int32) (r : Nat → Option Nat), (zF l k i r).length = l.length
  | [], _, _, _ => rfl
  | c :: l, k, i, r => by
    rw [zF, List.length_cons, List.length_cons, zF_len l]
/-- one int field is set -/
theorem zF_seti (l : List Bool) (k j : Nat) (i : Nat → Int32) (r : Nat → Option Nat) (v : Int32) (h : l[j]? = some false) : (zF l k i r).set j (.int v) = zF l k (fun x => if x = k + j then v else i x) r := by
  apply List.ext_getElem?
  intro n
  by_cases hn : n = j
  · subst hn
    have hl : n < (zF l k i r).length := by rw [zF_len]; exact (List.getElem?_eq_some_iff.mp h).1
    rw [List.getElem?_set_self hl, zF_get l k n _ _ false h]
    simp
  · rw [List.getElem?_set_ne (Ne.symm hn)]
    cases hb : l[n]? with
    | none =>
      have h1 : l.length ≤ n := by simpa using hb
      rw [List.getElem?_eq_none (by rw [zF_len]; exact h1), List.getElem?_eq_none (by rw [zF_len]; exact h1)]
    | some b =>
      rw [zF_get l k n _ _ b hb, zF_get l k n _ _ b hb]
      rw [if_neg (show ¬ k + n = k + j by omega)]
theorem zF_setr (l : List Bool) (k j : Nat) (i : Nat → Int32) (r : Nat → Option Nat) (v : Option Nat) (h : l[j]? = some true) : (zF l k i r).set j (va_rf v) = zF l k i (fun x => if x = k + j then v else r x) := by
  apply List.ext_getElem?
  intro n
  by_cases hn : n = j
  · subst hn
    have hl : n < (zF l k i r).length := by rw [zF_len]; exact (List.getElem?_eq_some_iff.mp h).1
    rw [List.getElem?_set_self hl, zF_get l k n _ _ true h]
    simp
  · rw [List.getElem?_set_ne (Ne.symm hn)]
    cases hb : l[n]? with
    | none =>
      have h1 : l.length ≤ n := by simpa using hb
      rw [List.getElem?_eq_none (by rw [zF_len]; exact h1), List.getElem?_eq_none (by rw [zF_len]; exact h1)]
    | some b =>
      rw [zF_get l k n _ _ b hb, zF_get l k n _ _ b hb]
      rw [if_neg (show ¬ k + n = k + j by omega)]
/-- which fields of a class are references -/
def zlay : Nat → List Bool
  | 0 => [false, true, true, true, true, true, false, false, false, false, false, false, false, false, false]
  | 1 => [true, true, false, true, true, true, true, true, false, false, false]
  | 2 => [true, false, false]
  | 3 => [false, false, false, false, false]
  | 4 => [true, true, true, false]
  | 5 => [false, true, true, false, false, false]
  | 6 => [true, true, true, true, false]
  | 7 => [true, true, false]
  | 8 => [false, false, false, false, false, false, false]
  | 9 => [true, false, false, false, false]
  | 10 => [true, true, true, true, true, true, true, true, true, false, false, false, false, false, false]
  | 11 => [true, false, true, false, true, true, true]
  | 12 => [false, false, true, false, true, false, false, true, true, true, true, true, false, true, true, true, true, false, false, false, false, false, false, false, false, false, true, false]
  | 13 => [true, true, true, true, true, false]
  | 14 => [false, false, false, false, false, true, true, false, true, false, true, true, true, true, true, false, false, false, false, false, false, true, false, true, true, true, false, true, true, true, false, true, false, true, true, true, true, true, true, false]
  | _ => []
/-- the component types of our arrays -/
def ztys (cA : Nat → ClassId) : List (ClassId × FieldType) := [(cA 0, .int), (cA 1, .boolean), (cA 2, .object "HouseWires$Line"), (cA 3, .object "HouseWires$Device"), (cA 4, .object "HouseWires$Filter"), (cA 5, .object "HouseWires$Port"), (cA 6, .object "HouseWires$Telegram"), (cA 7, .object "HouseWires$Station"), (cA 8, .object "HouseWires$GroupObject"), (cA 9, .object "HouseWiresModel$Out"), (cA 10, .object "HouseWiresModel$Device"), (cA 11, .object "HouseWiresModel$Coupler"), (cA 12, .array .int), (cA 13, .long)]
def zAO : List String := ["HouseWires$Line", "HouseWires$Device", "HouseWires$Filter", "HouseWires$Port", "HouseWires$Telegram", "HouseWires$Station", "HouseWires$GroupObject", "HouseWiresModel$Out", "HouseWiresModel$Device", "HouseWiresModel$Coupler"]
def zNW : List Cond := [.methodLinkNest "HouseWires" 9 ⟨"HouseWires$Tally", "<init>", "()V"⟩ "HouseWires", .methodLinkNest "HouseWires" 42 ⟨"HouseWires$Harms", "<init>", "()V"⟩ "HouseWires", .methodLinkNest "HouseWires" 53 ⟨"HouseWires$Telegram", "<init>", "()V"⟩ "HouseWires", .methodLinkNest "HouseWires$Row" 21 ⟨"HouseWires$Telegram", "<init>", "()V"⟩ "HouseWires", .methodLinkNest "HouseWires$Connection" 28 ⟨"HouseWires$Telegram", "<init>", "()V"⟩ "HouseWires", .methodLinkNest "HouseWires$Station" 15 ⟨"HouseWires$Telegram", "<init>", "()V"⟩ "HouseWires", .methodLinkNest "HouseWires" 119 ⟨"HouseWires$Filter", "<init>", "()V"⟩ "HouseWires", .methodLinkNest "HouseWires$Device" 39 ⟨"HouseWires", "isWithin", "(III)Z"⟩ "HouseWires", .methodLinkNest "HouseWires$Telegram" 36 ⟨"HouseWires", "isWithin", "(III)Z"⟩ "HouseWires", .methodLinkNest "HouseWiresModel" 90 ⟨"HouseWiresModel$Device", "<init>", "()V"⟩ "HouseWiresModel", .methodLinkNest "HouseWiresModel$Device" 11 ⟨"HouseWiresModel$Out", "<init>", "()V"⟩ "HouseWiresModel", .methodLinkNest "HouseWiresModel" 91 ⟨"HouseWiresModel$Coupler", "<init>", "()V"⟩ "HouseWiresModel", .methodLinkNest "HouseWiresModel$Coupler" 20 ⟨"HouseWiresModel$Out", "<init>", "()V"⟩ "HouseWiresModel", .methodLinkNest "HouseWiresModel" 92 ⟨"HouseWiresModel$Out", "<init>", "()V"⟩ "HouseWiresModel"]
theorem zNW_form : ∀ w ∈ zNW, ∃ (a : String) (i : Nat) (x : MethodName) (h : String), w = .methodLinkNest a i x h := by
  intro w hw
  simp only [zNW, List.mem_cons, List.not_mem_nil, or_false] at hw
  rcases hw with rfl | rfl | rfl | rfl | rfl | rfl | rfl | rfl | rfl | rfl | rfl | rfl | rfl | rfl <;> exact ⟨_, _, _, _, rfl⟩
/-- what the cell of kind k with length n, ints i, references r is for the kit -/
def zE (cA : Nat → ClassId) (k n : Nat) (i : Nat → Int32) (r : Nat → Option Nat) : va_E :=
  if k < 99 then .inr (k - 1, zF (zlay (k - 1)) 0 i r) else if k = 99 then .inl (cA 13, n, .inr (.inl (fun j => Int32.toInt64 (i j)))) else if k < 102 then .inl (cA (k - 100), n, .inl i) else .inl (cA (k - 100), n, .inr (.inr (.inr (.inr r))))
abbrev zE' (cA : Nat → ClassId) (M : zM) (a : Nat) : va_E := zE cA (M.1 a) (M.2.1 a) (M.2.2.1 a) (M.2.2.2 a)
/-- a list world holds just the memory's cells -/
def zRep (cA : Nat → ClassId) (M : zM) (ws : va_W) : Prop := (∀ a, M.1 a ≠ 0 → ∃ j : Nat, ws[j]? = some (a, zE' cA M a)) ∧ ∀ (j : Nat) (q : Nat × va_E), ws[j]? = some q → M.1 q.1 ≠ 0 ∧ q.2 = zE' cA M q.1
/-- an int is written, a reference is written, a new cell -/
def zi (M : zM) (a k : Nat) (v : Int32) : zM := (M.1, M.2.1, fun x j => if x = a ∧ j = k then v else M.2.2.1 x j, M.2.2.2)
def zr (M : zM) (a k : Nat) (v : Option Nat) : zM := (M.1, M.2.1, M.2.2.1, fun x j => if x = a ∧ j = k then v else M.2.2.2 x j)
def zn (M : zM) (a k n : Nat) : zM := (fun x => if x = a then k else M.1 x, fun x => if x = a then n else M.2.1 x, fun x j => if x = a then 0 else M.2.2.1 x j, fun x j => if x = a then none else M.2.2.2 x j)
theorem zRep.set {cA : Nat → ClassId} {M M' : zM} {ws : va_W} {A : Nat → Prop} {a q0 : Nat} {e0 e : va_E} (h : zRep cA M ws) (hD : va_D A ws) (hq : ws[q0]? = some (a, e0)) (ho : ∀ x, x ≠ a → M'.1 x = M.1 x ∧ zE' cA M' x = zE' cA M x) (hk : M'.1 a ≠ 0) (he : e = zE' cA M' a) : zRep cA M' (ws.set q0 (a, e)) := by
  have hl := (List.getElem?_eq_some_iff.mp hq).1
  refine ⟨fun x hx => ?_, fun j q hj => ?_⟩
  · by_cases hxa : x = a
    · subst hxa
      exact ⟨q0, by rw [List.getElem?_set_self hl, he]⟩
    · obtain ⟨h1, h2⟩ := ho x hxa
      obtain ⟨j, hj⟩ := h.1 x (by rw [← h1]; exact hx)
      refine ⟨j, ?_⟩
      rw [List.getElem?_set_ne, hj, h2]
      intro hjq
      subst hjq
      rw [hq] at hj
      cases hj
      exact hxa rfl
  · by_cases hjq : j = q0
    · subst hjq
      rw [List.getElem?_set_self hl] at hj
      cases hj
      exact ⟨hk, he⟩
    · rw [List.getElem?_set_ne (Ne.symm hjq)] at hj
      have hqa : q.1 ≠ a := fun z => hjq (hD.1 j q0 q (a, e0) hj hq z)
      obtain ⟨h1, h2⟩ := ho q.1 hqa
      obtain ⟨h3, h4⟩ := h.2 j q hj
      exact ⟨by rw [h1]; exact h3, by rw [h2]; exact h4⟩
theorem zRep.fresh {cA : Nat → ClassId} {M : zM} {ws : va_W} {A : Nat → Prop} {a : Nat} {e : va_E} (h : zRep cA M ws) (hD : va_D A (ws ++ [(a, e)])) : M.1 a = 0 := by
  rcases Nat.eq_zero_or_pos (M.1 a) with h0 | h0
  · exact h0
  · obtain ⟨j, hj⟩ := h.1 a (by omega)
    have hl := (List.getElem?_eq_some_iff.mp hj).1
    have h1 : (ws ++ [(a, e)])[j]? = some (a, zE' cA M a) := by rw [List.getElem?_append_left hl]; exact hj
    have h2 : (ws ++ [(a, e)])[ws.length]? = some (a, e) := by rw [List.getElem?_append_right (Nat.le_refl _)]; simp
    have h3 := hD.1 j ws.length _ _ h1 h2 rfl
    omega
theorem zRep.push {cA : Nat → ClassId} {M M' : zM} {ws : va_W} {a : Nat} {e : va_E} (h : zRep cA M ws) (hf : M.1 a = 0) (ho : ∀ x, x ≠ a → M'.1 x = M.1 x ∧ zE' cA M' x = zE' cA M x) (hk : M'.1 a ≠ 0) (he : e = zE' cA M' a) : zRep cA M' (ws ++ [(a, e)]) := by
  refine ⟨fun x hx => ?_, fun j q hj => ?_⟩
  · by_cases hxa : x = a
    · subst hxa
      exact ⟨ws.length, by rw [List.getElem?_append_right (Nat.le_refl _), he]; simp⟩
    · obtain ⟨h1, h2⟩ := ho x hxa
      obtain ⟨j, hj⟩ := h.1 x (by rw [← h1]; exact hx)
      exact ⟨j, by rw [List.getElem?_append_left (List.getElem?_eq_some_iff.mp hj).1, hj, h2]⟩
  · by_cases hl : j < ws.length
    · rw [List.getElem?_append_left hl] at hj
      obtain ⟨h3, h4⟩ := h.2 j q hj
      have hqa : q.1 ≠ a := fun z => by rw [z] at h3; exact h3 hf
      obtain ⟨h1, h2⟩ := ho q.1 hqa
      exact ⟨by rw [h1]; exact h3, by rw [h2]; exact h4⟩
    · rw [List.getElem?_append_right (by omega)] at hj
      have hz : j - ws.length < 1 := (List.getElem?_eq_some_iff.mp hj).1
      rw [show j - ws.length = 0 by omega] at hj
      cases hj
      exact ⟨hk, he⟩
theorem zi_ne {cA : Nat → ClassId} (M : zM) (a k : Nat) (v : Int32) : ∀ x, x ≠ a → (zi M a k v).1 x = M.1 x ∧ zE' cA (zi M a k v) x = zE' cA M x := fun x hx => ⟨rfl, by simp [zi, zE', hx]⟩
theorem zr_ne {cA : Nat → ClassId} (M : zM) (a k : Nat) (v : Option Nat) : ∀ x, x ≠ a → (zr M a k v).1 x = M.1 x ∧ zE' cA (zr M a k v) x = zE' cA M x := fun x hx => ⟨rfl, by simp [zr, zE', hx]⟩
theorem zn_ne {cA : Nat → ClassId} (M : zM) (a k n : Nat) : ∀ x, x ≠ a → (zn M a k n).1 x = M.1 x ∧ zE' cA (zn M a k n) x = zE' cA M x := fun x hx => ⟨by simp [zn, hx], by simp [zn, zE', hx]⟩
/-- the words that every contract of ours has: those of the tables that stay -/
def zT : List Cond := lw_tbl.filter goodWord
theorem zT_tab {w : Cond} (j : Nat) (h : tables_1[j]? = some w) (g : goodWord w = true) : w ∈ zT := List.mem_filter.mpr ⟨List.mem_append_right _ (List.mem_of_getElem? h), g⟩
theorem zT_prv {w : Cond} (j : Nat) (h : (k2_sels lw_privs)[j]? = some w) (g : goodWord w = true) : w ∈ zT := List.mem_filter.mpr ⟨List.mem_append_left _ (List.mem_of_getElem? h), g⟩
theorem zT_good {y : MethodName} {b : ByteArray} {n : Nat} {r : Option FieldType} {big : List Cond} (hb : ∀ w ∈ zT, w ∈ big) (h : Cond.code y b n r ∈ zT) : GoodIn big (.code y b n r :: zT) := by
  intro w hw
  rcases List.mem_cons.mp hw with e | hw
  · subst e
    exact ⟨hb _ h, good_of_word (List.mem_filter.mp h).2⟩
  · exact ⟨hb _ hw, good_of_word (List.mem_filter.mp hw).2⟩
/-- launch, classes and slots, array classes -/
abbrev zG : Type := Launch × va_G × (Nat → ClassId)
/-- int[][] is an array of int[] -/
def zO2 (G : zG) (U : State) : Prop := ∃ kA : Class, U.vm.classes[G.2.2 12]? = some kA ∧ kA.kind = .array (G.2.2 0) (.array .int)
theorem zO2.moved {G : zG} {u U : State} (hvm : u.vm.Alike U.vm) (h : zO2 G u) : zO2 G U := by
  obtain ⟨kA, h1, h2⟩ := h
  obtain ⟨k', hk', he⟩ := hvm.2.2 _ _ h1
  exact ⟨k', hk', by rw [he]; exact h2⟩
/-- what the tables say at a state, and keeps -/
def zV (G : zG) (U : State) : Prop := va_K G.2.1 vwCl (ztys G.2.2) U ∧ (∀ C ∈ zAO, va_AO C U) ∧ (∀ w ∈ zNW, va_Nw w U) ∧ zO2 G U
/-- which cells a method may write -/
def zA (M : zM) (sz : Nat) : Nat → Prop := fun q => M.1 q ≠ 0 ∨ sz ≤ q
def zQ (G : zG) (A : Nat → Prop) (post : zM → Option Value → Prop) : Array Value → State → Outcome → State → Prop := fun _ st oc t => (∃ (M : zM) (v : Option Value) (ws : va_W), oc = .returned v ∧ post M v ∧ zRep G.2.2 M ws ∧ va_P G.2.1 vwCl ws t.heap ∧ zV G t ∧ va_D A ws) ∧ va_F A st t
/-- where a method begins: memory M -/
def zP (G : zG) (M : zM) (sz : Nat) (U : State) : Prop := U.heap.size = sz ∧ zV G U ∧ ∃ ws : va_W, zRep G.2.2 M ws ∧ va_P G.2.1 vwCl ws U.heap ∧ va_D (fun _ => True) ws
/-- a method's contract at memory M and arguments av: it returns, and post holds -/
def zC (G : zG) (y : MethodName) (cc : ByteArray) (maxL : Nat) (ret : Option FieldType) (rm : Room) (M : zM) (av : List Value) (post : zM → Option Value → Prop) : Prop :=
  ∀ sz : Nat, Met G.1 y (.code y cc maxL ret :: zT) rm (va_Pc av (zP G M sz)) (zQ G (zA M sz) post) rm.cells rm.slots (zA M sz)
/-- an activation: machine, start, frame, cells it may write, what is owed at its end -/
abbrev zX : Type := Program × Env × Room × State × MethodId × Array Value × List Frame × Method × Code × (Nat → Prop) × (zM → Option Value → Prop)
abbrev zX.p (X : zX) : Program := X.1
abbrev zX.e (X : zX) : Env := X.2.1
abbrev zX.R (X : zX) : Room := X.2.2.1
abbrev zX.s (X : zX) : State := X.2.2.2.1
abbrev zX.m (X : zX) : MethodId := X.2.2.2.2.1
abbrev zX.a (X : zX) : Array Value := X.2.2.2.2.2.1
abbrev zX.b (X : zX) : List Frame := X.2.2.2.2.2.2.1
abbrev zX.h (X : zX) : Method := X.2.2.2.2.2.2.2.1
abbrev zX.c (X : zX) : Code := X.2.2.2.2.2.2.2.2.1
abbrev zX.A (X : zX) : Nat → Prop := X.2.2.2.2.2.2.2.2.2.1
abbrev zX.q (X : zX) : zM → Option Value → Prop := X.2.2.2.2.2.2.2.2.2.2
/-- what holds of an activation all the while -/
def zOK (G : zG) (X : zX) (cc : ByteArray) (nL : Nat) (own : String) (ret : Option FieldType) (nm : String) : Prop :=
  X.p.tables.exec = Jvm.exec ∧ X.c.code = cc ∧ X.h.sig.returnType = ret ∧ X.c.maxLocals = nL ∧ X.s.vm.findClass own = some X.m.cls ∧ (∀ w ∈ zT, w.before X.a X.s = true) ∧ zV G X.s ∧ X.h.locks = false ∧ X.h.name = nm ∧ ∀ q : Nat, X.s.heap.size ≤ q → X.A q
/-- the walk from pc with memory M, n cells and k slots made, locals lv, stack st -/
def zW (G : zG) (X : zX) (nL : Nat) (M : zM) (n k pc : Nat) (lv : List (Nat × Value)) (st : List Value) : Prop :=
  ∀ (H : Heap) (locs : List Loc) (ws : va_W) (ls : Array Slot), zRep G.2.2 M ws → va_P G.2.1 vwCl ws H → va_D X.A ws → va_S X.A X.s.heap H locs → lv_has ls nL lv → n ≤ X.R.cells → k ≤ X.R.slots →
    W X.p G.1 X.e X.R X.s X.m X.a X.b X.h X.c H locs n k (MQ X.b (zQ G X.A X.q) X.a X.s X.R.cells X.R.slots X.A) (F0 X.m pc ls st)
theorem zV.moved {G : zG} {u U : State} (hW : u.WarmedH U.vm) (h : zV G u) : zV G U := by
  obtain ⟨h1, h2, h3, h4⟩ := h
  refine ⟨va_K.moved hW.alike h1, fun C hC => va_AO.moved hW.alike (h2 C hC), fun w hw => ?_, ?_⟩
  · obtain ⟨a, i, x, h, rfl⟩ := zNW_form w hw
    exact va_Nw.warmM hW (h3 _ hw)
  · exact zO2.moved hW.alike h4
theorem zV.same {G : zG} {u U : State} (hv : u.vm = U.vm) (h : zV G u) : zV G U := by
  obtain ⟨h1, h2, h3, h4⟩ := h
  have hal : u.vm.Alike U.vm := by rw [hv]; exact Vm.Alike.refl _
  refine ⟨va_K.moved hal h1, fun C hC => va_AO.moved hal (h2 C hC), fun w hw => ?_, ?_⟩
  · obtain ⟨a, i, x, h, rfl⟩ := zNW_form w hw
    exact va_Nw.same rfl hv (h3 _ hw)
  · exact zO2.moved hal h4
theorem zP_blind {G : zG} {M : zM} {sz : Nat} {av : List Value} : FrameBlind (va_Pc av (zP G M sz)) := fun a U g mk h => ⟨h.1, h.2.1, zV.same (u := U) (U := U.calling g mk a) rfl h.2.2.1, h.2.2.2⟩
end
section
section ZROW
variable {G : zG} {X : zX} {cc : ByteArray} {nL : Nat} {own : String} {ret : Option FieldType} {nm : String} {M : zM} {n k pc : Nat} {lv : List (Nat × Value)} {st : List Value}
theorem z_iconst (O : zOK G X cc nL own ret nm) {i : Int} {v : Int32} (hd : decode cc pc = .ok (.iconst i, 1)) (hv : Int32.ofInt i = v) (K : zW G X nL M n k (pc + 1) lv (.int v :: st)) : zW G X nL M n k pc lv st := fun H locs ws ls h1 h2 h3 h4 h5 h6 h7 => lv_iconst O.1 O.2.1 hd hv (K H locs ws ls h1 h2 h3 h4 h5 h6 h7)
theorem z_bipush (O : zOK G X cc nL own ret nm) {i : Int} {v : Int32} (hd : decode cc pc = .ok (.bipush i, 2)) (hv : (Int8.ofInt i).toInt32 = v) (K : zW G X nL M n k (pc + 2) lv (.int v :: st)) : zW G X nL M n k pc lv st := fun H locs ws ls h1 h2 h3 h4 h5 h6 h7 => lv_bipush O.1 O.2.1 hd hv (K H locs ws ls h1 h2 h3 h4 h5 h6 h7)
theorem z_sipush (O : zOK G X cc nL own ret nm) {i : Int} {v : Int32} (hd : decode cc pc = .ok (.sipush i, 3)) (hv : (Int16.ofInt i).toInt32 = v) (K : zW G X nL M n k (pc + 3) lv (.int v :: st)) : zW G X nL M n k pc lv st := fun H locs ws ls h1 h2 h3 h4 h5 h6 h7 => lv_sipush O.1 O.2.1 hd hv (K H locs ws ls h1 h2 h3 h4 h5 h6 h7)
theorem z_lconst (O : zOK G X cc nL own ret nm) {i : Fin 2} {v : Int64} (hd : decode cc pc = .ok (.lconst i, 1)) (hv : Int64.ofNat (i : Nat) = v) (K : zW G X nL M n k (pc + 1) lv (.long v :: st)) : zW G X nL M n k pc lv st := fun H locs ws ls h1 h2 h3 h4 h5 h6 h7 => lv_lconst O.1 O.2.1 hd hv (K H locs ws ls h1 h2 h3 h4 h5 h6 h7)
theorem z_null (O : zOK G X cc nL own ret nm) (hd : decode cc pc = .ok (.aconst_null, 1)) (K : zW G X nL M n k (pc + 1) lv (.null :: st)) : zW G X nL M n k pc lv st := fun H locs ws ls h1 h2 h3 h4 h5 h6 h7 => lv_null O.1 O.2.1 hd (K H locs ws ls h1 h2 h3 h4 h5 h6 h7)
theorem z_ldc (O : zOK G X cc nL own ret nm) {i : Nat} {v : Int32} (hd : decode cc pc = .ok (.ldc i, 2)) (hw : Cond.constant own i v ∈ zT) (K : zW G X nL M n k (pc + 2) lv (.int v :: st)) : zW G X nL M n k pc lv st := fun H locs ws ls h1 h2 h3 h4 h5 h6 h7 => lv_ldc O.1 O.2.1 O.2.2.2.2.1 (O.2.2.2.2.2.1 _ hw) hd (K H locs ws ls h1 h2 h3 h4 h5 h6 h7)
theorem z_ldc_w (O : zOK G X cc nL own ret nm) {i : Nat} {v : Int32} (hd : decode cc pc = .ok (.ldc_w i, 3)) (hw : Cond.constant own i v ∈ zT) (K : zW G X nL M n k (pc + 3) lv (.int v :: st)) : zW G X nL M n k pc lv st := fun H locs ws ls h1 h2 h3 h4 h5 h6 h7 => lv_ldcw O.1 O.2.1 O.2.2.2.2.1 (O.2.2.2.2.2.1 _ hw) hd (K H locs ws ls h1 h2 h3 h4 h5 h6 h7)
theorem z_ldc2_w (O : zOK G X cc nL own ret nm) {i : Nat} {v : Int64} (hd : decode cc pc = .ok (.ldc2_w i, 3)) (hw : Cond.constantLong own i v ∈ zT) (K : zW G X nL M n k (pc + 3) lv (.long v :: st)) : zW G X nL M n k pc lv st := fun H locs ws ls h1 h2 h3 h4 h5 h6 h7 => lv_ldc2 O.1 O.2.1 O.2.2.2.2.1 (O.2.2.2.2.2.1 _ hw) hd (K H locs ws ls h1 h2 h3 h4 h5 h6 h7)
theorem z_iload_n (O : zOK G X cc nL own ret nm) {j : Fin 4} {i : Nat} {x : Int32} (hd : decode cc pc = .ok (.iload_n j, 1)) (hi : (j : Nat) = i) (q : Nat) (hl : lv[q]? = some (i, .int x)) (K : zW G X nL M n k (pc + 1) lv (.int x :: st)) : zW G X nL M n k pc lv st := fun H locs ws ls h1 h2 h3 h4 h5 h6 h7 => lv_iload_n O.1 O.2.1 hd hi (lv_at h5 q hl) (K H locs ws ls h1 h2 h3 h4 h5 h6 h7)
theorem z_iload (O : zOK G X cc nL own ret nm) {i : Nat} {x : Int32} (hd : decode cc pc = .ok (.iload i, 2)) (q : Nat) (hl : lv[q]? = some (i, .int x)) (K : zW G X nL M n k (pc + 2) lv (.int x :: st)) : zW G X nL M n k pc lv st := fun H locs ws ls h1 h2 h3 h4 h5 h6 h7 => lv_iload O.1 O.2.1 hd (lv_at h5 q hl) (K H locs ws ls h1 h2 h3 h4 h5 h6 h7)
theorem z_lload_n (O : zOK G X cc nL own ret nm) {j : Fin 4} {i : Nat} {x : Int64} (hd : decode cc pc = .ok (.lload_n j, 1)) (hi : (j : Nat) = i) (q : Nat) (hl : lv[q]? = some (i, .long x)) (K : zW G X nL M n k (pc + 1) lv (.long x :: st)) : zW G X nL M n k pc lv st := fun H locs ws ls h1 h2 h3 h4 h5 h6 h7 => lv_lload_n O.1 O.2.1 hd hi (lv_at h5 q hl) (K H locs ws ls h1 h2 h3 h4 h5 h6 h7)
theorem z_lload (O : zOK G X cc nL own ret nm) {i : Nat} {x : Int64} (hd : decode cc pc = .ok (.lload i, 2)) (q : Nat) (hl : lv[q]? = some (i, .long x)) (K : zW G X nL M n k (pc + 2) lv (.long x :: st)) : zW G X nL M n k pc lv st := fun H locs ws ls h1 h2 h3 h4 h5 h6 h7 => lv_lload O.1 O.2.1 hd (lv_at h5 q hl) (K H locs ws ls h1 h2 h3 h4 h5 h6 h7)
theorem z_aload_n (O : zOK G X cc nL own ret nm) {j : Fin 4} {i : Nat} {x : Nat} (hd : decode cc pc = .ok (.aload_n j, 1)) (hi : (j : Nat) = i) (q : Nat) (hl : lv[q]? = some (i, .ref x)) (K : zW G X nL M n k (pc + 1) lv (.ref x :: st)) : zW G X nL M n k pc lv st := fun H locs ws ls h1 h2 h3 h4 h5 h6 h7 => lv_aload_n O.1 O.2.1 hd hi (lv_at h5 q hl) (K H locs ws ls h1 h2 h3 h4 h5 h6 h7)
theorem z_aload (O : zOK G X cc nL own ret nm) {i : Nat} {x : Nat} (hd : decode cc pc = .ok (.aload i, 2)) (q : Nat) (hl : lv[q]? = some (i, .ref x)) (K : zW G X nL M n k (pc + 2) lv (.ref x :: st)) : zW G X nL M n k pc lv st := fun H locs ws ls h1 h2 h3 h4 h5 h6 h7 => lv_aload O.1 O.2.1 hd (lv_at h5 q hl) (K H locs ws ls h1 h2 h3 h4 h5 h6 h7)
theorem z_aload_nN (O : zOK G X cc nL own ret nm) {j : Fin 4} {i : Nat} (hd : decode cc pc = .ok (.aload_n j, 1)) (hi : (j : Nat) = i) (q : Nat) (hl : lv[q]? = some (i, .null)) (K : zW G X nL M n k (pc + 1) lv (.null :: st)) : zW G X nL M n k pc lv st := fun H locs ws ls h1 h2 h3 h4 h5 h6 h7 => lv_aload_nN O.1 O.2.1 hd hi (lv_at h5 q hl) (K H locs ws ls h1 h2 h3 h4 h5 h6 h7)
theorem z_aloadN (O : zOK G X cc nL own ret nm) {i : Nat} (hd : decode cc pc = .ok (.aload i, 2)) (q : Nat) (hl : lv[q]? = some (i, .null)) (K : zW G X nL M n k (pc + 2) lv (.null :: st)) : zW G X nL M n k pc lv st := fun H locs ws ls h1 h2 h3 h4 h5 h6 h7 => lv_aloadN O.1 O.2.1 hd (lv_at h5 q hl) (K H locs ws ls h1 h2 h3 h4 h5 h6 h7)
theorem z_istore_n (O : zOK G X cc nL own ret nm) {j : Fin 4} {i : Nat} {x : Int32} {lv' : List (Nat × Value)} (hd : decode cc pc = .ok (.istore_n j, 1)) (hi : (j : Nat) = i) (hn : i < nL) (hl : (i, Value.int x) :: lv.filter (fun q => !(q.1 == i) && !(q.1 + 1 == i && q.2.category == 2)) = lv') (K : zW G X nL M n k (pc + 1) lv' st) : zW G X nL M n k pc lv (.int x :: st) := fun H locs ws ls h1 h2 h3 h4 h5 h6 h7 => lv_istore_n O.1 O.2.1 hd hi h5 hn hl (fun ls h5 => K H locs ws ls h1 h2 h3 h4 h5 h6 h7)
theorem z_istore (O : zOK G X cc nL own ret nm) {i : Nat} {x : Int32} {lv' : List (Nat × Value)} (hd : decode cc pc = .ok (.istore i, 2)) (hn : i < nL) (hl : (i, Value.int x) :: lv.filter (fun q => !(q.1 == i) && !(q.1 + 1 == i && q.2.category == 2)) = lv') (K : zW G X nL M n k (pc + 2) lv' st) : zW G X nL M n k pc lv (.int x :: st) := fun H locs ws ls h1 h2 h3 h4 h5 h6 h7 => lv_istore O.1 O.2.1 hd h5 hn hl (fun ls h5 => K H locs ws ls h1 h2 h3 h4 h5 h6 h7)
theorem z_lstore_n (O : zOK G X cc nL own ret nm) {j : Fin 4} {i : Nat} {x : Int64} {lv' : List (Nat × Value)} (hd : decode cc pc = .ok (.lstore_n j, 1)) (hi : (j : Nat) = i) (hn : i + 1 < nL) (hl : (i, Value.long x) :: lv.filter (fun q => !(q.1 == i) && (!(q.1 == i + 1) && !(q.1 + 1 == i && q.2.category == 2))) = lv') (K : zW G X nL M n k (pc + 1) lv' st) : zW G X nL M n k pc lv (.long x :: st) := fun H locs ws ls h1 h2 h3 h4 h5 h6 h7 => lv_lstore_n O.1 O.2.1 hd hi h5 hn hl (fun ls h5 => K H locs ws ls h1 h2 h3 h4 h5 h6 h7)
theorem z_lstore (O : zOK G X cc nL own ret nm) {i : Nat} {x : Int64} {lv' : List (Nat × Value)} (hd : decode cc pc = .ok (.lstore i, 2)) (hn : i + 1 < nL) (hl : (i, Value.long x) :: lv.filter (fun q => !(q.1 == i) && (!(q.1 == i + 1) && !(q.1 + 1 == i && q.2.category == 2))) = lv') (K : zW G X nL M n k (pc + 2) lv' st) : zW G X nL M n k pc lv (.long x :: st) := fun H locs ws ls h1 h2 h3 h4 h5 h6 h7 => lv_lstore O.1 O.2.1 hd h5 hn hl (fun ls h5 => K H locs ws ls h1 h2 h3 h4 h5 h6 h7)
theorem z_astore_n (O : zOK G X cc nL own ret nm) {j : Fin 4} {i : Nat} {x : Nat} {lv' : List (Nat × Value)} (hd : decode cc pc = .ok (.astore_n j, 1)) (hi : (j : Nat) = i) (hn : i < nL) (hl : (i, Value.ref x) :: lv.filter (fun q => !(q.1 == i) && !(q.1 + 1 == i && q.2.category == 2)) = lv') (K : zW G X nL M n k (pc + 1) lv' st) : zW G X nL M n k pc lv (.ref x :: st) := fun H locs ws ls h1 h2 h3 h4 h5 h6 h7 => lv_astore_n O.1 O.2.1 hd hi h5 hn hl (fun ls h5 => K H locs ws ls h1 h2 h3 h4 h5 h6 h7)
theorem z_astore (O : zOK G X cc nL own ret nm) {i : Nat} {x : Nat} {lv' : List (Nat × Value)} (hd : decode cc pc = .ok (.astore i, 2)) (hn : i < nL) (hl : (i, Value.ref x) :: lv.filter (fun q => !(q.1 == i) && !(q.1 + 1 == i && q.2.category == 2)) = lv') (K : zW G X nL M n k (pc + 2) lv' st) : zW G X nL M n k pc lv (.ref x :: st) := fun H locs ws ls h1 h2 h3 h4 h5 h6 h7 => lv_astore O.1 O.2.1 hd h5 hn hl (fun ls h5 => K H locs ws ls h1 h2 h3 h4 h5 h6 h7)
theorem z_astore_nN (O : zOK G X cc nL own ret nm) {j : Fin 4} {i : Nat} {lv' : List (Nat × Value)} (hd : decode cc pc = .ok (.astore_n j, 1)) (hi : (j : Nat) = i) (hn : i < nL) (hl : (i, Value.null) :: lv.filter (fun q => !(q.1 == i) && !(q.1 + 1 == i && q.2.category == 2)) = lv') (K : zW G X nL M n k (pc + 1) lv' st) : zW G X nL M n k pc lv (.null :: st) := fun H locs ws ls h1 h2 h3 h4 h5 h6 h7 => lv_astore_nN O.1 O.2.1 hd hi h5 hn hl (fun ls h5 => K H locs ws ls h1 h2 h3 h4 h5 h6 h7)
theorem z_astoreN (O : zOK G X cc nL own ret nm) {i : Nat} {lv' : List (Nat × Value)} (hd : decode cc pc = .ok (.astore i, 2)) (hn : i < nL) (hl : (i, Value.null) :: lv.filter (fun q => !(q.1 == i) && !(q.1 + 1 == i && q.2.category == 2)) = lv') (K : zW G X nL M n k (pc + 2) lv' st) : zW G X nL M n k pc lv (.null :: st) := fun H locs ws ls h1 h2 h3 h4 h5 h6 h7 => lv_astoreN O.1 O.2.1 hd h5 hn hl (fun ls h5 => K H locs ws ls h1 h2 h3 h4 h5 h6 h7)
theorem z_iinc (O : zOK G X cc nL own ret nm) {i q : Nat} {d : Int} {x v : Int32} {lv' : List (Nat × Value)} (hd : decode cc pc = .ok (.iinc i d, 3)) (hq : lv[q]? = some (i, .int x)) (hv : x + Int32.ofInt d = v) (hn : i < nL) (hl : (i, Value.int v) :: lv.filter (fun q => !(q.1 == i) && !(q.1 + 1 == i && q.2.category == 2)) = lv') (K : zW G X nL M n k (pc + 3) lv' st) : zW G X nL M n k pc lv st := fun H locs ws ls h1 h2 h3 h4 h5 h6 h7 => lv_iinc O.1 O.2.1 hd h5 hq hv hn hl (fun ls h5 => K H locs ws ls h1 h2 h3 h4 h5 h6 h7)
theorem z_iadd (O : zOK G X cc nL own ret nm) {x y : Int32} (hd : decode cc pc = .ok (.iadd, 1)) (K : zW G X nL M n k (pc + 1) lv (.int (x + y) :: st)) : zW G X nL M n k pc lv (.int y :: .int x :: st) := fun H locs ws ls h1 h2 h3 h4 h5 h6 h7 => lv_iadd O.1 O.2.1 hd (K H locs ws ls h1 h2 h3 h4 h5 h6 h7)
theorem z_isub (O : zOK G X cc nL own ret nm) {x y : Int32} (hd : decode cc pc = .ok (.isub, 1)) (K : zW G X nL M n k (pc + 1) lv (.int (x - y) :: st)) : zW G X nL M n k pc lv (.int y :: .int x :: st) := fun H locs ws ls h1 h2 h3 h4 h5 h6 h7 => lv_isub O.1 O.2.1 hd (K H locs ws ls h1 h2 h3 h4 h5 h6 h7)
theorem z_imul (O : zOK G X cc nL own ret nm) {x y : Int32} (hd : decode cc pc = .ok (.imul, 1)) (K : zW G X nL M n k (pc + 1) lv (.int (x * y) :: st)) : zW G X nL M n k pc lv (.int y :: .int x :: st) := fun H locs ws ls h1 h2 h3 h4 h5 h6 h7 => lv_imul O.1 O.2.1 hd (K H locs ws ls h1 h2 h3 h4 h5 h6 h7)
theorem z_iand (O : zOK G X cc nL own ret nm) {x y : Int32} (hd : decode cc pc = .ok (.iand, 1)) (K : zW G X nL M n k (pc + 1) lv (.int (x &&& y) :: st)) : zW G X nL M n k pc lv (.int y :: .int x :: st) := fun H locs ws ls h1 h2 h3 h4 h5 h6 h7 => lv_iand O.1 O.2.1 hd (K H locs ws ls h1 h2 h3 h4 h5 h6 h7)
theorem z_ior (O : zOK G X cc nL own ret nm) {x y : Int32} (hd : decode cc pc = .ok (.ior, 1)) (K : zW G X nL M n k (pc + 1) lv (.int (x ||| y) :: st)) : zW G X nL M n k pc lv (.int y :: .int x :: st) := fun H locs ws ls h1 h2 h3 h4 h5 h6 h7 => lv_ior O.1 O.2.1 hd (K H locs ws ls h1 h2 h3 h4 h5 h6 h7)
theorem z_ixor (O : zOK G X cc nL own ret nm) {x y : Int32} (hd : decode cc pc = .ok (.ixor, 1)) (K : zW G X nL M n k (pc + 1) lv (.int (x ^^^ y) :: st)) : zW G X nL M n k pc lv (.int y :: .int x :: st) := fun H locs ws ls h1 h2 h3 h4 h5 h6 h7 => lv_ixor O.1 O.2.1 hd (K H locs ws ls h1 h2 h3 h4 h5 h6 h7)
theorem z_ishl (O : zOK G X cc nL own ret nm) {x y : Int32} (hd : decode cc pc = .ok (.ishl, 1)) (K : zW G X nL M n k (pc + 1) lv (.int (x <<< (y &&& 31)) :: st)) : zW G X nL M n k pc lv (.int y :: .int x :: st) := fun H locs ws ls h1 h2 h3 h4 h5 h6 h7 => lv_ishl O.1 O.2.1 hd (K H locs ws ls h1 h2 h3 h4 h5 h6 h7)
theorem z_ishr (O : zOK G X cc nL own ret nm) {x y : Int32} (hd : decode cc pc = .ok (.ishr, 1)) (K : zW G X nL M n k (pc + 1) lv (.int (x >>> (y &&& 31)) :: st)) : zW G X nL M n k pc lv (.int y :: .int x :: st) := fun H locs ws ls h1 h2 h3 h4 h5 h6 h7 => lv_ishr O.1 O.2.1 hd (K H locs ws ls h1 h2 h3 h4 h5 h6 h7)
theorem z_idiv (O : zOK G X cc nL own ret nm) {x y : Int32} (hd : decode cc pc = .ok (.idiv, 1)) (hne : ¬ y = 0) (K : zW G X nL M n k (pc + 1) lv (.int (x / y) :: st)) : zW G X nL M n k pc lv (.int y :: .int x :: st) := fun H locs ws ls h1 h2 h3 h4 h5 h6 h7 => lv_idiv O.1 O.2.1 hd hne (K H locs ws ls h1 h2 h3 h4 h5 h6 h7)
theorem z_irem (O : zOK G X cc nL own ret nm) {x y : Int32} (hd : decode cc pc = .ok (.irem, 1)) (hne : ¬ y = 0) (K : zW G X nL M n k (pc + 1) lv (.int (x - x / y * y) :: st)) : zW G X nL M n k pc lv (.int y :: .int x :: st) := fun H locs ws ls h1 h2 h3 h4 h5 h6 h7 => lv_irem O.1 O.2.1 hd hne (K H locs ws ls h1 h2 h3 h4 h5 h6 h7)
theorem z_ineg (O : zOK G X cc nL own ret nm) {x : Int32} (hd : decode cc pc = .ok (.ineg, 1)) (K : zW G X nL M n k (pc + 1) lv (.int (-x) :: st)) : zW G X nL M n k pc lv (.int x :: st) := fun H locs ws ls h1 h2 h3 h4 h5 h6 h7 => lv_ineg O.1 O.2.1 hd (K H locs ws ls h1 h2 h3 h4 h5 h6 h7)
theorem z_i2l (O : zOK G X cc nL own ret nm) {x : Int32} (hd : decode cc pc = .ok (.i2l, 1)) (K : zW G X nL M n k (pc + 1) lv (.long x.toInt64 :: st)) : zW G X nL M n k pc lv (.int x :: st) := fun H locs ws ls h1 h2 h3 h4 h5 h6 h7 => lv_i2l O.1 O.2.1 hd rfl (K H locs ws ls h1 h2 h3 h4 h5 h6 h7)
theorem z_land (O : zOK G X cc nL own ret nm) {x y : Int64} (hd : decode cc pc = .ok (.land, 1)) (K : zW G X nL M n k (pc + 1) lv (.long (x &&& y) :: st)) : zW G X nL M n k pc lv (.long y :: .long x :: st) := fun H locs ws ls h1 h2 h3 h4 h5 h6 h7 => lv_land O.1 O.2.1 hd (K H locs ws ls h1 h2 h3 h4 h5 h6 h7)
theorem z_lmul (O : zOK G X cc nL own ret nm) {x y : Int64} (hd : decode cc pc = .ok (.lmul, 1)) (K : zW G X nL M n k (pc + 1) lv (.long (x * y) :: st)) : zW G X nL M n k pc lv (.long y :: .long x :: st) := fun H locs ws ls h1 h2 h3 h4 h5 h6 h7 => lv_lmul O.1 O.2.1 hd (K H locs ws ls h1 h2 h3 h4 h5 h6 h7)
theorem z_lshl (O : zOK G X cc nL own ret nm) {x : Int64} {y : Int32} (hd : decode cc pc = .ok (.lshl, 1)) (K : zW G X nL M n k (pc + 1) lv (.long (x <<< (y.toInt64 &&& 63)) :: st)) : zW G X nL M n k pc lv (.int y :: .long x :: st) := fun H locs ws ls h1 h2 h3 h4 h5 h6 h7 => lv_lshl O.1 O.2.1 hd rfl (K H locs ws ls h1 h2 h3 h4 h5 h6 h7)
theorem z_lcmp (O : zOK G X cc nL own ret nm) {x y : Int64} (hd : decode cc pc = .ok (.lcmp, 1)) (K : zW G X nL M n k (pc + 1) lv (.int (lg_cmp x y) :: st)) : zW G X nL M n k pc lv (.long y :: .long x :: st) := fun H locs ws ls h1 h2 h3 h4 h5 h6 h7 => W.lcmp O.1 O.2.1 hd (K H locs ws ls h1 h2 h3 h4 h5 h6 h7)
theorem z_dup (O : zOK G X cc nL own ret nm) {v : Value} (hd : decode cc pc = .ok (.dup, 1)) (hc : v.category = 1) (K : zW G X nL M n k (pc + 1) lv (v :: v :: st)) : zW G X nL M n k pc lv (v :: st) := fun H locs ws ls h1 h2 h3 h4 h5 h6 h7 => lv_dup O.1 O.2.1 hd hc (K H locs ws ls h1 h2 h3 h4 h5 h6 h7)
theorem z_pop (O : zOK G X cc nL own ret nm) {v : Value} (hd : decode cc pc = .ok (.pop, 1)) (hc : v.category = 1) (K : zW G X nL M n k (pc + 1) lv st) : zW G X nL M n k pc lv (v :: st) := fun H locs ws ls h1 h2 h3 h4 h5 h6 h7 => lv_pop O.1 O.2.1 hd hc (K H locs ws ls h1 h2 h3 h4 h5 h6 h7)
theorem z_dup2 (O : zOK G X cc nL own ret nm) {v w : Value} (hd : decode cc pc = .ok (.dup2, 1)) (hc : v.category = 1) (hc2 : w.category = 1) (K : zW G X nL M n k (pc + 1) lv (v :: w :: v :: w :: st)) : zW G X nL M n k pc lv (v :: w :: st) := fun H locs ws ls h1 h2 h3 h4 h5 h6 h7 => lv_dup2_11 O.1 O.2.1 hd hc hc2 (K H locs ws ls h1 h2 h3 h4 h5 h6 h7)
theorem z_if_eq (O : zOK G X cc nL own ret nm) {x : Int32} {off : Int} (tgt : Nat) (hd : decode cc pc = .ok (.ifCond .eq off, 3)) (ht : (pc : Int) + off = (tgt : Int)) (kt : x = 0 → zW G X nL M n k tgt lv st) (kf : ¬ x = 0 → zW G X nL M n k (pc + 3) lv st) : zW G X nL M n k pc lv (.int x :: st) := fun H locs ws ls h1 h2 h3 h4 h5 h6 h7 => lv_if_eq O.1 O.2.1 hd ht (fun c => kt c H locs ws ls h1 h2 h3 h4 h5 h6 h7) (fun c => kf c H locs ws ls h1 h2 h3 h4 h5 h6 h7)
theorem z_icmp_eq (O : zOK G X cc nL own ret nm) {x y : Int32} {off : Int} (tgt : Nat) (hd : decode cc pc = .ok (.if_icmp .eq off, 3)) (ht : (pc : Int) + off = (tgt : Int)) (kt : x = y → zW G X nL M n k tgt lv st) (kf : ¬ x = y → zW G X nL M n k (pc + 3) lv st) : zW G X nL M n k pc lv (.int y :: .int x :: st) := fun H locs ws ls h1 h2 h3 h4 h5 h6 h7 => lv_icmp_eq O.1 O.2.1 hd ht (fun c => kt c H locs ws ls h1 h2 h3 h4 h5 h6 h7) (fun c => kf c H locs ws ls h1 h2 h3 h4 h5 h6 h7)
theorem z_if_ne (O : zOK G X cc nL own ret nm) {x : Int32} {off : Int} (tgt : Nat) (hd : decode cc pc = .ok (.ifCond .ne off, 3)) (ht : (pc : Int) + off = (tgt : Int)) (kt : ¬ x = 0 → zW G X nL M n k tgt lv st) (kf : x = 0 → zW G X nL M n k (pc + 3) lv st) : zW G X nL M n k pc lv (.int x :: st) := fun H locs ws ls h1 h2 h3 h4 h5 h6 h7 => lv_if_ne O.1 O.2.1 hd ht (fun c => kt c H locs ws ls h1 h2 h3 h4 h5 h6 h7) (fun c => kf c H locs ws ls h1 h2 h3 h4 h5 h6 h7)
theorem z_icmp_ne (O : zOK G X cc nL own ret nm) {x y : Int32} {off : Int} (tgt : Nat) (hd : decode cc pc = .ok (.if_icmp .ne off, 3)) (ht : (pc : Int) + off = (tgt : Int)) (kt : ¬ x = y → zW G X nL M n k tgt lv st) (kf : x = y → zW G X nL M n k (pc + 3) lv st) : zW G X nL M n k pc lv (.int y :: .int x :: st) := fun H locs ws ls h1 h2 h3 h4 h5 h6 h7 => lv_icmp_ne O.1 O.2.1 hd ht (fun c => kt c H locs ws ls h1 h2 h3 h4 h5 h6 h7) (fun c => kf c H locs ws ls h1 h2 h3 h4 h5 h6 h7)
theorem z_if_lt (O : zOK G X cc nL own ret nm) {x : Int32} {off : Int} (tgt : Nat) (hd : decode cc pc = .ok (.ifCond .lt off, 3)) (ht : (pc : Int) + off = (tgt : Int)) (kt : x < 0 → zW G X nL M n k tgt lv st) (kf : ¬ x < 0 → zW G X nL M n k (pc + 3) lv st) : zW G X nL M n k pc lv (.int x :: st) := fun H locs ws ls h1 h2 h3 h4 h5 h6 h7 => lv_if_lt O.1 O.2.1 hd ht (fun c => kt c H locs ws ls h1 h2 h3 h4 h5 h6 h7) (fun c => kf c H locs ws ls h1 h2 h3 h4 h5 h6 h7)
theorem z_icmp_lt (O : zOK G X cc nL own ret nm) {x y : Int32} {off : Int} (tgt : Nat) (hd : decode cc pc = .ok (.if_icmp .lt off, 3)) (ht : (pc : Int) + off = (tgt : Int)) (kt : x < y → zW G X nL M n k tgt lv st) (kf : ¬ x < y → zW G X nL M n k (pc + 3) lv st) : zW G X nL M n k pc lv (.int y :: .int x :: st) := fun H locs ws ls h1 h2 h3 h4 h5 h6 h7 => lv_icmp_lt O.1 O.2.1 hd ht (fun c => kt c H locs ws ls h1 h2 h3 h4 h5 h6 h7) (fun c => kf c H locs ws ls h1 h2 h3 h4 h5 h6 h7)
theorem z_if_ge (O : zOK G X cc nL own ret nm) {x : Int32} {off : Int} (tgt : Nat) (hd : decode cc pc = .ok (.ifCond .ge off, 3)) (ht : (pc : Int) + off = (tgt : Int)) (kt : 0 ≤ x → zW G X nL M n k tgt lv st) (kf : ¬ 0 ≤ x → zW G X nL M n k (pc + 3) lv st) : zW G X nL M n k pc lv (.int x :: st) := fun H locs ws ls h1 h2 h3 h4 h5 h6 h7 => lv_if_ge O.1 O.2.1 hd ht (fun c => kt c H locs ws ls h1 h2 h3 h4 h5 h6 h7) (fun c => kf c H locs ws ls h1 h2 h3 h4 h5 h6 h7)
theorem z_icmp_ge (O : zOK G X cc nL own ret nm) {x y : Int32} {off : Int} (tgt : Nat) (hd : decode cc pc = .ok (.if_icmp .ge off, 3)) (ht : (pc : Int) + off = (tgt : Int)) (kt : y ≤ x → zW G X nL M n k tgt lv st) (kf : ¬ y ≤ x → zW G X nL M n k (pc + 3) lv st) : zW G X nL M n k pc lv (.int y :: .int x :: st) := fun H locs ws ls h1 h2 h3 h4 h5 h6 h7 => lv_icmp_ge O.1 O.2.1 hd ht (fun c => kt c H locs ws ls h1 h2 h3 h4 h5 h6 h7) (fun c => kf c H locs ws ls h1 h2 h3 h4 h5 h6 h7)
theorem z_if_gt (O : zOK G X cc nL own ret nm) {x : Int32} {off : Int} (tgt : Nat) (hd : decode cc pc = .ok (.ifCond .gt off, 3)) (ht : (pc : Int) + off = (tgt : Int)) (kt : 0 < x → zW G X nL M n k tgt lv st) (kf : ¬ 0 < x → zW G X nL M n k (pc + 3) lv st) : zW G X nL M n k pc lv (.int x :: st) := fun H locs ws ls h1 h2 h3 h4 h5 h6 h7 => lv_if_gt O.1 O.2.1 hd ht (fun c => kt c H locs ws ls h1 h2 h3 h4 h5 h6 h7) (fun c => kf c H locs ws ls h1 h2 h3 h4 h5 h6 h7)
theorem z_icmp_gt (O : zOK G X cc nL own ret nm) {x y : Int32} {off : Int} (tgt : Nat) (hd : decode cc pc = .ok (.if_icmp .gt off, 3)) (ht : (pc : Int) + off = (tgt : Int)) (kt : y < x → zW G X nL M n k tgt lv st) (kf : ¬ y < x → zW G X nL M n k (pc + 3) lv st) : zW G X nL M n k pc lv (.int y :: .int x :: st) := fun H locs ws ls h1 h2 h3 h4 h5 h6 h7 => lv_icmp_gt O.1 O.2.1 hd ht (fun c => kt c H locs ws ls h1 h2 h3 h4 h5 h6 h7) (fun c => kf c H locs ws ls h1 h2 h3 h4 h5 h6 h7)
theorem z_if_le (O : zOK G X cc nL own ret nm) {x : Int32} {off : Int} (tgt : Nat) (hd : decode cc pc = .ok (.ifCond .le off, 3)) (ht : (pc : Int) + off = (tgt : Int)) (kt : x ≤ 0 → zW G X nL M n k tgt lv st) (kf : ¬ x ≤ 0 → zW G X nL M n k (pc + 3) lv st) : zW G X nL M n k pc lv (.int x :: st) := fun H locs ws ls h1 h2 h3 h4 h5 h6 h7 => lv_if_le O.1 O.2.1 hd ht (fun c => kt c H locs ws ls h1 h2 h3 h4 h5 h6 h7) (fun c => kf c H locs ws ls h1 h2 h3 h4 h5 h6 h7)
theorem z_icmp_le (O : zOK G X cc nL own ret nm) {x y : Int32} {off : Int} (tgt : Nat) (hd : decode cc pc = .ok (.if_icmp .le off, 3)) (ht : (pc : Int) + off = (tgt : Int)) (kt : x ≤ y → zW G X nL M n k tgt lv st) (kf : ¬ x ≤ y → zW G X nL M n k (pc + 3) lv st) : zW G X nL M n k pc lv (.int y :: .int x :: st) := fun H locs ws ls h1 h2 h3 h4 h5 h6 h7 => lv_icmp_le O.1 O.2.1 hd ht (fun c => kt c H locs ws ls h1 h2 h3 h4 h5 h6 h7) (fun c => kf c H locs ws ls h1 h2 h3 h4 h5 h6 h7)
theorem z_goto (O : zOK G X cc nL own ret nm) {off : Int} (tgt : Nat) (hd : decode cc pc = .ok (.goto off, 3)) (ht : (pc : Int) + off = (tgt : Int)) (K : zW G X nL M n k tgt lv st) : zW G X nL M n k pc lv st := fun H locs ws ls h1 h2 h3 h4 h5 h6 h7 => lv_goto O.1 O.2.1 hd ht (K H locs ws ls h1 h2 h3 h4 h5 h6 h7)
theorem z_ifnull (O : zOK G X cc nL own ret nm) {x : Nat} {off : Int} (hd : decode cc pc = .ok (.ifnull off, 3)) (K : zW G X nL M n k (pc + 3) lv st) : zW G X nL M n k pc lv (.ref x :: st) := fun H locs ws ls h1 h2 h3 h4 h5 h6 h7 => lv_ifnull O.1 O.2.1 hd (K H locs ws ls h1 h2 h3 h4 h5 h6 h7)
theorem z_ifnonnullN (O : zOK G X cc nL own ret nm) {off : Int} (hd : decode cc pc = .ok (.ifnonnull off, 3)) (K : zW G X nL M n k (pc + 3) lv st) : zW G X nL M n k pc lv (.null :: st) := fun H locs ws ls h1 h2 h3 h4 h5 h6 h7 => lv_ifnonnullN O.1 O.2.1 hd (K H locs ws ls h1 h2 h3 h4 h5 h6 h7)
theorem z_ifnonnull (O : zOK G X cc nL own ret nm) {x : Nat} {off : Int} (tgt : Nat) (hd : decode cc pc = .ok (.ifnonnull off, 3)) (ht : (pc : Int) + off = (tgt : Int)) (K : zW G X nL M n k tgt lv st) : zW G X nL M n k pc lv (.ref x :: st) := fun H locs ws ls h1 h2 h3 h4 h5 h6 h7 => lv_ifnonnull O.1 O.2.1 hd ht (K H locs ws ls h1 h2 h3 h4 h5 h6 h7)
theorem z_ifnullN (O : zOK G X cc nL own ret nm) {off : Int} (tgt : Nat) (hd : decode cc pc = .ok (.ifnull off, 3)) (ht : (pc : Int) + off = (tgt : Int)) (K : zW G X nL M n k tgt lv st) : zW G X nL M n k pc lv (.null :: st) := fun H locs ws ls h1 h2 h3 h4 h5 h6 h7 => lv_ifnullN O.1 O.2.1 hd ht (K H locs ws ls h1 h2 h3 h4 h5 h6 h7)
theorem z_acmp_eq (O : zOK G X cc nL own ret nm) {rx ry : Option Nat} {off : Int} (tgt : Nat) (hd : decode cc pc = .ok (.if_acmp .eq off, 3)) (ht : (pc : Int) + off = (tgt : Int)) (kt : rx = ry → zW G X nL M n k tgt lv st) (kf : ¬ rx = ry → zW G X nL M n k (pc + 3) lv st) : zW G X nL M n k pc lv (va_rf ry :: va_rf rx :: st) := fun H locs ws ls h1 h2 h3 h4 h5 h6 h7 => lv_acmp_eq O.1 O.2.1 hd ht (fun c => kt c H locs ws ls h1 h2 h3 h4 h5 h6 h7) (fun c => kf c H locs ws ls h1 h2 h3 h4 h5 h6 h7)
theorem z_acmp_ne (O : zOK G X cc nL own ret nm) {rx ry : Option Nat} {off : Int} (tgt : Nat) (hd : decode cc pc = .ok (.if_acmp .ne off, 3)) (ht : (pc : Int) + off = (tgt : Int)) (kt : ¬ rx = ry → zW G X nL M n k tgt lv st) (kf : rx = ry → zW G X nL M n k (pc + 3) lv st) : zW G X nL M n k pc lv (va_rf ry :: va_rf rx :: st) := fun H locs ws ls h1 h2 h3 h4 h5 h6 h7 => lv_acmp_ne O.1 O.2.1 hd ht (fun c => kt c H locs ws ls h1 h2 h3 h4 h5 h6 h7) (fun c => kf c H locs ws ls h1 h2 h3 h4 h5 h6 h7)
theorem z_tsOut (O : zOK G X cc nL own ret nm) {dflt lo hi : Int} {offs : Array Int} {len : Nat} {x : Int32} (tgt : Nat) (hd : decode cc pc = .ok (.tableswitch dflt lo hi offs, len)) (h : x.toInt < lo ∨ hi < x.toInt) (ht : (pc : Int) + dflt = (tgt : Int)) (K : zW G X nL M n k tgt lv st) : zW G X nL M n k pc lv (.int x :: st) := fun H locs ws ls h1 h2 h3 h4 h5 h6 h7 => lv_tableOut O.1 O.2.1 hd h ht (K H locs ws ls h1 h2 h3 h4 h5 h6 h7)
theorem z_tsIn (O : zOK G X cc nL own ret nm) {dflt lo hi off : Int} {offs : Array Int} {len : Nat} {x : Int32} (tgt : Nat) (hd : decode cc pc = .ok (.tableswitch dflt lo hi offs, len)) (g1 : ¬ x.toInt < lo) (g2 : ¬ hi < x.toInt) (ho : offs[(x.toInt - lo).toNat]? = some off) (ht : (pc : Int) + off = (tgt : Int)) (K : zW G X nL M n k tgt lv st) : zW G X nL M n k pc lv (.int x :: st) := fun H locs ws ls h1 h2 h3 h4 h5 h6 h7 => lv_tableIn O.1 O.2.1 hd g1 g2 ho ht (K H locs ws ls h1 h2 h3 h4 h5 h6 h7)
theorem z_to {lv' : List (Nat × Value)} (ks : List Nat) (hl : lv_pick lv ks = lv') (K : zW G X nL M n k pc lv' st) : zW G X nL M n k pc lv st := fun H locs ws ls h1 h2 h3 h4 h5 h6 h7 => K H locs ws ls h1 h2 h3 h4 (lv_sub h5 ks hl) h6 h7
theorem z_wide {n' k' : Nat} (hn : n ≤ n') (hk : k ≤ k') (gn : n' ≤ X.R.cells) (gk : k' ≤ X.R.slots) (K : zW G X nL M n' k' pc lv st) : zW G X nL M n k pc lv st := fun H locs ws ls h1 h2 h3 h4 h5 h6 h7 => W.widen hn hk (K H locs ws ls h1 h2 h3 h4 h5 gn gk)
end ZROW
end
section
/-! ===== rows that read and write the memory ===== -/
/-- the pool's entry index of class own is field j of class ci -/
def zFld (own : String) (index ci j : Nat) (r : Bool) : Prop := ∃ (C : String) (T : u_T) (N : Nat) (ref : String), vwCl[ci]? = some (C, T, N) ∧ j < N ∧ (∀ w ∈ u_ws C T N, w ∈ zT) ∧ Cond.fieldLink own index ref (T j).2.1 (T j).2.2.1 ∈ zT ∧ ((T j).1 = ref ∨ Cond.sameField ref (T j).1 (T j).2.1 (T j).2.2.1 ∈ zT) ∧ (zlay ci)[j]? = some r ∧ ci + 1 < 99
def zFldP (own : String) (index ci j : Nat) (r fin : Bool) : Prop := ∃ (C : String) (T : u_T) (N : Nat) (ref : String) (ty : Nat → FieldType), vwCl[ci]? = some (C, T, N) ∧ j < N ∧ (∀ w ∈ u_ws C T N, w ∈ zT) ∧ Cond.fieldLink own index ref (T j).2.1 (T j).2.2.1 ∈ zT ∧ ((T j).1 = ref ∨ Cond.sameField ref (T j).1 (T j).2.1 (T j).2.2.1 ∈ zT) ∧ (zlay ci)[j]? = some r ∧ ci + 1 < 99 ∧
  (∀ i, i < N → parseFieldDescriptor (T i).2.2.1 = some (ty i)) ∧ (∀ a, a < N → ∀ b, b < N → a ≠ b → (T a).2.1 ≠ (T b).2.1) ∧ (T j).2.2.2 = fin ∧ (fin = true → (T j).1 = own) ∧ (r = false → ty j = .int) ∧ (r = true → (ty j).isReference = true)
theorem zrf_narrow {t : FieldType} (h : t.isReference = true) (v : Option Nat) : narrow t (va_rf v) = va_rf v ∧ fits t (va_rf v) = true := by
  cases v <;> cases t <;> simp [FieldType.isReference] at h <;> exact ⟨rfl, rfl⟩
section ZMEM
variable {G : zG} {X : zX} {cc : ByteArray} {nL : Nat} {own : String} {ret : Option FieldType} {nm : String} {M : zM} {n k pc : Nat} {lv : List (Nat × Value)} {st : List Value}
theorem zE_obj {cA : Nat → ClassId} {a ci : Nat} (hk : M.1 a = ci + 1) (h : ci + 1 < 99) : zE' cA M a = .inr (ci, zF (zlay ci) 0 (M.2.2.1 a) (M.2.2.2 a)) := by
  simp only [zE', zE, hk]
  rw [if_pos h]
  rfl
theorem zE_int {cA : Nat → ClassId} {a : Nat} (hk : M.1 a = 100) : zE' cA M a = .inl (cA 0, M.2.1 a, .inl (M.2.2.1 a)) := by
  simp [zE', zE, hk]
theorem zE_bool {cA : Nat → ClassId} {a : Nat} (hk : M.1 a = 101) : zE' cA M a = .inl (cA 1, M.2.1 a, .inl (M.2.2.1 a)) := by
  simp [zE', zE, hk]
theorem zE_ref {cA : Nat → ClassId} {a t : Nat} (hk : M.1 a = 102 + t) : zE' cA M a = .inl (cA (2 + t), M.2.1 a, .inr (.inr (.inr (.inr (M.2.2.2 a))))) := by
  simp only [zE', zE, hk]
  rw [if_neg (by omega), if_neg (by omega), if_neg (by omega), show 102 + t - 100 = 2 + t by omega]
theorem z_get (O : zOK G X cc nL own ret nm) {index ci j a : Nat} {r : Bool} {v : Value} (F : zFld own index ci j r) (hd : decode cc pc = .ok (.getfield index, 3)) (hk : M.1 a = ci + 1) (hv : (if r then va_rf (M.2.2.2 a j) else Value.int (M.2.2.1 a j)) = v) (K : zW G X nL M n k (pc + 3) lv (v :: st)) : zW G X nL M n k pc lv (.ref a :: st) := by
  intro H locs ws ls h1 h2 h3 h4 h5 h6 h7
  obtain ⟨C, T, N, ref, c1, c2, c3, c4, c5, c6, c7⟩ := F
  obtain ⟨q, hq⟩ := h1.1 a (by rw [hk]; omega)
  rw [zE_obj hk c7] at hq
  refine va_get O.1 O.2.1 O.2.2.2.2.2.1 c3 O.2.2.2.2.1 O.2.2.2.2.2.2.1.1 h2 q hq c1 j c2 (O.2.2.2.2.2.1 _ c4) ?_ (v := v) ?_ hd (K H locs ws ls h1 h2 h3 h4 h5 h6 h7)
  · intro x hx
    rcases c5 with e | e
    · rw [← e]; exact hx
    · exact u_same (O.2.2.2.2.2.1 _ e) x hx
  · rw [zF_get _ _ _ _ _ _ c6, Nat.zero_add, hv]
theorem z_geti (O : zOK G X cc nL own ret nm) {index ci j a : Nat} (F : zFld own index ci j false) (hd : decode cc pc = .ok (.getfield index, 3)) (hk : M.1 a = ci + 1) (K : zW G X nL M n k (pc + 3) lv (.int (M.2.2.1 a j) :: st)) : zW G X nL M n k pc lv (.ref a :: st) := z_get O F hd hk rfl K
theorem z_getr (O : zOK G X cc nL own ret nm) {index ci j a b : Nat} (F : zFld own index ci j true) (hd : decode cc pc = .ok (.getfield index, 3)) (hk : M.1 a = ci + 1) (hr : M.2.2.2 a j = some b) (K : zW G X nL M n k (pc + 3) lv (.ref b :: st)) : zW G X nL M n k pc lv (.ref a :: st) := z_get O F hd hk (by rw [hr]; rfl) K
theorem z_getN (O : zOK G X cc nL own ret nm) {index ci j a : Nat} (F : zFld own index ci j true) (hd : decode cc pc = .ok (.getfield index, 3)) (hk : M.1 a = ci + 1) (hr : M.2.2.2 a j = none) (K : zW G X nL M n k (pc + 3) lv (.null :: st)) : zW G X nL M n k pc lv (.ref a :: st) := z_get O F hd hk (by rw [hr]; rfl) K
/-- a field is written: what the new memory is -/
theorem zPut_i (M : zM) (a j : Nat) (v : Int32) {cA : Nat → ClassId} {ci : Nat} (hk : M.1 a = ci + 1) (hc : ci + 1 < 99) (hl : (zlay ci)[j]? = some false) : (Sum.inr (ci, (zF (zlay ci) 0 (M.2.2.1 a) (M.2.2.2 a)).set j (.int v)) : va_E) = zE' cA (zi M a j v) a := by
  rw [zE_obj (M := zi M a j v) (show (zi M a j v).1 a = ci + 1 from hk) hc, zF_seti _ _ _ _ _ _ hl]
  simp only [zi, Nat.zero_add, true_and]
theorem zPut_r (M : zM) (a j : Nat) (v : Option Nat) {cA : Nat → ClassId} {ci : Nat} (hk : M.1 a = ci + 1) (hc : ci + 1 < 99) (hl : (zlay ci)[j]? = some true) : (Sum.inr (ci, (zF (zlay ci) 0 (M.2.2.1 a) (M.2.2.2 a)).set j (va_rf v)) : va_E) = zE' cA (zr M a j v) a := by
  rw [zE_obj (M := zr M a j v) (show (zr M a j v).1 a = ci + 1 from hk) hc, zF_setr _ _ _ _ _ _ hl]
  simp only [zr, Nat.zero_add, true_and]
theorem zlay_lt {ci j : Nat} {r : Bool} {i : Nat → Int32} {f : Nat → Option Nat} (h : (zlay ci)[j]? = some r) : j < (zF (zlay ci) 0 i f).length := by
  rw [zF_len]
  exact (List.getElem?_eq_some_iff.mp h).1
theorem z_puti (O : zOK G X cc nL own ret nm) {index ci j a : Nat} {v : Int32} (F : zFldP own index ci j false false) (hd : decode cc pc = .ok (.putfield index, 3)) (hk : M.1 a = ci + 1) (K : zW G X nL (zi M a j v) n k (pc + 3) lv st) : zW G X nL M n k pc lv (.int v :: .ref a :: st) := by
  intro H locs ws ls h1 h2 h3 h4 h5 h6 h7
  obtain ⟨C, T, N, ref, ty, c1, c2, c3, c4, c5, c6, c7, c8, c9, c10, c11, c12, c13⟩ := F
  obtain ⟨q, hq⟩ := h1.1 a (by rw [hk]; omega)
  rw [zE_obj hk c7] at hq
  refine va_put O.1 O.2.1 O.2.2.2.2.2.1 c3 ty c8 c9 O.2.2.2.2.1 O.2.2.2.2.2.2.1.1 h2 h3 h4 q hq c1 j c2 (O.2.2.2.2.2.1 _ c4) ?_ c10 (ty := .int) (by rw [c8 j c2, c12 rfl]) rfl rfl (zlay_lt c6) hd (fun H1 locs1 g1 g2 g3 => ?_)
  · intro x hx
    rcases c5 with e | e
    · rw [← e]; exact hx
    · exact u_same (O.2.2.2.2.2.1 _ e) x hx
  · exact K H1 locs1 _ ls (h1.set h3 hq (zi_ne M a j v) (by show M.1 a ≠ 0; rw [hk]; omega) (zPut_i M a j v hk c7 c6)) g1 g2 g3 h5 h6 h7
theorem z_putiF (O : zOK G X cc nL own ret "<init>") {index ci j a : Nat} {v : Int32} (F : zFldP own index ci j false true) (hd : decode cc pc = .ok (.putfield index, 3)) (hk : M.1 a = ci + 1) (K : zW G X nL (zi M a j v) n k (pc + 3) lv st) : zW G X nL M n k pc lv (.int v :: .ref a :: st) := by
  intro H locs ws ls h1 h2 h3 h4 h5 h6 h7
  obtain ⟨C, T, N, ref, ty, c1, c2, c3, c4, c5, c6, c7, c8, c9, c10, c11, c12, c13⟩ := F
  obtain ⟨q, hq⟩ := h1.1 a (by rw [hk]; omega)
  rw [zE_obj hk c7] at hq
  refine va_putF O.1 O.2.1 O.2.2.2.2.2.1 c3 ty c8 c9 O.2.2.2.2.1 O.2.2.2.2.2.2.1.1 h2 h3 h4 q hq c1 j c2 (O.2.2.2.2.2.1 _ c4) ?_ c10 O.2.2.2.2.2.2.2.2.1 (c11 rfl) (ty := .int) (by rw [c8 j c2, c12 rfl]) rfl rfl (zlay_lt c6) hd (fun H1 locs1 g1 g2 g3 => ?_)
  · intro x hx
    rcases c5 with e | e
    · rw [← e]; exact hx
    · exact u_same (O.2.2.2.2.2.1 _ e) x hx
  · exact K H1 locs1 _ ls (h1.set h3 hq (zi_ne M a j v) (by show M.1 a ≠ 0; rw [hk]; omega) (zPut_i M a j v hk c7 c6)) g1 g2 g3 h5 h6 h7
theorem z_putO (O : zOK G X cc nL own ret nm) {index ci j a : Nat} {v : Option Nat} (F : zFldP own index ci j true false) (hd : decode cc pc = .ok (.putfield index, 3)) (hk : M.1 a = ci + 1) (K : zW G X nL (zr M a j v) n k (pc + 3) lv st) : zW G X nL M n k pc lv (va_rf v :: .ref a :: st) := by
  intro H locs ws ls h1 h2 h3 h4 h5 h6 h7
  obtain ⟨C, T, N, ref, ty, c1, c2, c3, c4, c5, c6, c7, c8, c9, c10, c11, c12, c13⟩ := F
  obtain ⟨q, hq⟩ := h1.1 a (by rw [hk]; omega)
  rw [zE_obj hk c7] at hq
  refine va_put O.1 O.2.1 O.2.2.2.2.2.1 c3 ty c8 c9 O.2.2.2.2.1 O.2.2.2.2.2.2.1.1 h2 h3 h4 q hq c1 j c2 (O.2.2.2.2.2.1 _ c4) ?_ c10 (ty := ty j) (c8 j c2) (zrf_narrow (c13 rfl) v).1 (zrf_narrow (c13 rfl) v).2 (zlay_lt c6) hd (fun H1 locs1 g1 g2 g3 => ?_)
  · intro x hx
    rcases c5 with e | e
    · rw [← e]; exact hx
    · exact u_same (O.2.2.2.2.2.1 _ e) x hx
  · exact K H1 locs1 _ ls (h1.set h3 hq (zr_ne M a j v) (by show M.1 a ≠ 0; rw [hk]; omega) (zPut_r M a j v hk c7 c6)) g1 g2 g3 h5 h6 h7
theorem z_putOF (O : zOK G X cc nL own ret "<init>") {index ci j a : Nat} {v : Option Nat} (F : zFldP own index ci j true true) (hd : decode cc pc = .ok (.putfield index, 3)) (hk : M.1 a = ci + 1) (K : zW G X nL (zr M a j v) n k (pc + 3) lv st) : zW G X nL M n k pc lv (va_rf v :: .ref a :: st) := by
  intro H locs ws ls h1 h2 h3 h4 h5 h6 h7
  obtain ⟨C, T, N, ref, ty, c1, c2, c3, c4, c5, c6, c7, c8, c9, c10, c11, c12, c13⟩ := F
  obtain ⟨q, hq⟩ := h1.1 a (by rw [hk]; omega)
  rw [zE_obj hk c7] at hq
  refine va_putF O.1 O.2.1 O.2.2.2.2.2.1 c3 ty c8 c9 O.2.2.2.2.1 O.2.2.2.2.2.2.1.1 h2 h3 h4 q hq c1 j c2 (O.2.2.2.2.2.1 _ c4) ?_ c10 O.2.2.2.2.2.2.2.2.1 (c11 rfl) (ty := ty j) (c8 j c2) (zrf_narrow (c13 rfl) v).1 (zrf_narrow (c13 rfl) v).2 (zlay_lt c6) hd (fun H1 locs1 g1 g2 g3 => ?_)
  · intro x hx
    rcases c5 with e | e
    · rw [← e]; exact hx
    · exact u_same (O.2.2.2.2.2.1 _ e) x hx
  · exact K H1 locs1 _ ls (h1.set h3 hq (zr_ne M a j v) (by show M.1 a ≠ 0; rw [hk]; omega) (zPut_r M a j v hk c7 c6)) g1 g2 g3 h5 h6 h7
theorem z_putr (O : zOK G X cc nL own ret nm) {index ci j a v : Nat} (F : zFldP own index ci j true false) (hd : decode cc pc = .ok (.putfield index, 3)) (hk : M.1 a = ci + 1) (K : zW G X nL (zr M a j (some v)) n k (pc + 3) lv st) : zW G X nL M n k pc lv (.ref v :: .ref a :: st) := z_putO (v := some v) O F hd hk K
theorem z_putrF (O : zOK G X cc nL own ret "<init>") {index ci j a v : Nat} (F : zFldP own index ci j true true) (hd : decode cc pc = .ok (.putfield index, 3)) (hk : M.1 a = ci + 1) (K : zW G X nL (zr M a j (some v)) n k (pc + 3) lv st) : zW G X nL M n k pc lv (.ref v :: .ref a :: st) := z_putOF (v := some v) O F hd hk K
theorem z_iald (O : zOK G X cc nL own ret nm) {a : Nat} {i : Int32} (hd : decode cc pc = .ok (.iaload, 1)) (hk : M.1 a = 100) (hi : vp_in i (M.2.1 a)) (K : zW G X nL M n k (pc + 1) lv (.int (M.2.2.1 a i.toNatClampNeg) :: st)) : zW G X nL M n k pc lv (.int i :: .ref a :: st) := by
  intro H locs ws ls h1 h2 h3 h4 h5 h6 h7
  obtain ⟨q, hq⟩ := h1.1 a (by rw [hk]; omega)
  rw [zE_int hk] at hq
  exact va_iald O.1 O.2.1 O.2.2.2.2.2.2.1.1 h2 q 0 hq rfl hi hd (K H locs ws ls h1 h2 h3 h4 h5 h6 h7)
theorem z_zald (O : zOK G X cc nL own ret nm) {a : Nat} {i : Int32} (hd : decode cc pc = .ok (.baload, 1)) (hk : M.1 a = 101) (hi : vp_in i (M.2.1 a)) (K : zW G X nL M n k (pc + 1) lv (.int (M.2.2.1 a i.toNatClampNeg) :: st)) : zW G X nL M n k pc lv (.int i :: .ref a :: st) := by
  intro H locs ws ls h1 h2 h3 h4 h5 h6 h7
  obtain ⟨q, hq⟩ := h1.1 a (by rw [hk]; omega)
  rw [zE_bool hk] at hq
  exact va_zald O.1 O.2.1 O.2.2.2.2.2.2.1.1 h2 q 1 hq rfl hi hd (K H locs ws ls h1 h2 h3 h4 h5 h6 h7)
theorem zUpd_i (M : zM) (a j : Nat) (v : Int32) : (zi M a j v).2.2.1 a = upd (M.2.2.1 a) j v := by
  funext x
  simp [zi, upd]
theorem zUpd_r (M : zM) (a j : Nat) (v : Option Nat) : (zr M a j v).2.2.2 a = va_up (M.2.2.2 a) j v := by
  funext x
  simp [zr, va_up]
theorem z_iast (O : zOK G X cc nL own ret nm) {a : Nat} {i v : Int32} (hd : decode cc pc = .ok (.iastore, 1)) (hk : M.1 a = 100) (hi : vp_in i (M.2.1 a)) (K : zW G X nL (zi M a i.toNatClampNeg v) n k (pc + 1) lv st) : zW G X nL M n k pc lv (.int v :: .int i :: .ref a :: st) := by
  intro H locs ws ls h1 h2 h3 h4 h5 h6 h7
  obtain ⟨q, hq⟩ := h1.1 a (by rw [hk]; omega)
  rw [zE_int hk] at hq
  refine va_iast O.1 O.2.1 O.2.2.2.2.2.2.1.1 h2 h3 h4 q 0 hq rfl hi hd (fun H1 locs1 g1 g2 g3 => ?_)
  exact K H1 locs1 _ ls (h1.set h3 hq (zi_ne M a _ v) (by show M.1 a ≠ 0; rw [hk]; omega) (by rw [zE_int (M := zi M a i.toNatClampNeg v) hk, zUpd_i]; rfl)) g1 g2 g3 h5 h6 h7
theorem z_zast (O : zOK G X cc nL own ret nm) {a : Nat} {i v : Int32} (hd : decode cc pc = .ok (.bastore, 1)) (hk : M.1 a = 101) (hi : vp_in i (M.2.1 a)) (K : zW G X nL (zi M a i.toNatClampNeg (vp_nar .boolean v)) n k (pc + 1) lv st) : zW G X nL M n k pc lv (.int v :: .int i :: .ref a :: st) := by
  intro H locs ws ls h1 h2 h3 h4 h5 h6 h7
  obtain ⟨q, hq⟩ := h1.1 a (by rw [hk]; omega)
  rw [zE_bool hk] at hq
  refine va_zast O.1 O.2.1 O.2.2.2.2.2.2.1.1 h2 h3 h4 q 1 hq rfl hi hd (fun H1 locs1 g1 g2 g3 => ?_)
  exact K H1 locs1 _ ls (h1.set h3 hq (zi_ne M a _ _) (by show M.1 a ≠ 0; rw [hk]; omega) (by rw [zE_bool (M := zi M a i.toNatClampNeg (vp_nar .boolean v)) hk, zUpd_i]; rfl)) g1 g2 g3 h5 h6 h7
theorem z_aldO (O : zOK G X cc nL own ret nm) {a t : Nat} {C : String} {i : Int32} {v : Value} (ht : (ztys G.2.2)[2 + t]? = some (G.2.2 (2 + t), .object C)) (hd : decode cc pc = .ok (.aaload, 1)) (hk : M.1 a = 102 + t) (hi : vp_in i (M.2.1 a)) (hv : va_rf (M.2.2.2 a i.toNatClampNeg) = v) (K : zW G X nL M n k (pc + 1) lv (v :: st)) : zW G X nL M n k pc lv (.int i :: .ref a :: st) := by
  intro H locs ws ls h1 h2 h3 h4 h5 h6 h7
  obtain ⟨q, hq⟩ := h1.1 a (by rw [hk]; omega)
  rw [zE_ref hk] at hq
  subst hv
  exact va_aldq O.1 O.2.1 O.2.2.2.2.2.2.1.1 h2 q (2 + t) hq ht hi hd (K H locs ws ls h1 h2 h3 h4 h5 h6 h7)
theorem z_ald (O : zOK G X cc nL own ret nm) {a t b : Nat} {C : String} {i : Int32} (ht : (ztys G.2.2)[2 + t]? = some (G.2.2 (2 + t), .object C)) (hd : decode cc pc = .ok (.aaload, 1)) (hk : M.1 a = 102 + t) (hi : vp_in i (M.2.1 a)) (hv : M.2.2.2 a i.toNatClampNeg = some b) (K : zW G X nL M n k (pc + 1) lv (.ref b :: st)) : zW G X nL M n k pc lv (.int i :: .ref a :: st) := z_aldO O ht hd hk hi (by rw [hv]; rfl) K
theorem z_ast (O : zOK G X cc nL own ret nm) {a t v ci N : Nat} {C : String} {T : u_T} {i : Int32} (ht : (ztys G.2.2)[2 + t]? = some (G.2.2 (2 + t), .object C)) (hc : vwCl[ci]? = some (C, T, N)) (hci : ci + 1 < 99) (hd : decode cc pc = .ok (.aastore, 1)) (hk : M.1 a = 102 + t) (hkv : M.1 v = ci + 1) (hi : vp_in i (M.2.1 a)) (K : zW G X nL (zr M a i.toNatClampNeg (some v)) n k (pc + 1) lv st) : zW G X nL M n k pc lv (.ref v :: .int i :: .ref a :: st) := by
  intro H locs ws ls h1 h2 h3 h4 h5 h6 h7
  obtain ⟨q, hq⟩ := h1.1 a (by rw [hk]; omega)
  obtain ⟨qv, hqv⟩ := h1.1 v (by rw [hkv]; omega)
  rw [zE_ref hk] at hq
  rw [zE_obj hkv hci] at hqv
  refine va_astq O.1 O.2.1 O.2.2.2.2.2.2.1.1 h2 h3 h4 q (2 + t) qv ci hq ht hqv hc hi hd (fun H1 locs1 g1 g2 g3 => ?_)
  exact K H1 locs1 _ ls (h1.set h3 hq (zr_ne M a _ _) (by show M.1 a ≠ 0; rw [hk]; omega) (by rw [zE_ref (M := zr M a i.toNatClampNeg (some v)) hk, zUpd_r]; rfl)) g1 g2 g3 h5 h6 h7
theorem z_aleni (O : zOK G X cc nL own ret nm) {a : Nat} (hd : decode cc pc = .ok (.arraylength, 1)) (hk : M.1 a = 100) (K : zW G X nL M n k (pc + 1) lv (.int (Int32.ofNat (M.2.1 a)) :: st)) : zW G X nL M n k pc lv (.ref a :: st) := by
  intro H locs ws ls h1 h2 h3 h4 h5 h6 h7
  obtain ⟨q, hq⟩ := h1.1 a (by rw [hk]; omega)
  rw [zE_int hk] at hq
  exact va_alen O.1 O.2.1 O.2.2.2.2.2.2.1.1 h2 q 0 hq rfl rfl hd (K H locs ws ls h1 h2 h3 h4 h5 h6 h7)
theorem z_alenr (O : zOK G X cc nL own ret nm) {a t : Nat} {C : String} (ht : (ztys G.2.2)[2 + t]? = some (G.2.2 (2 + t), .object C)) (hd : decode cc pc = .ok (.arraylength, 1)) (hk : M.1 a = 102 + t) (K : zW G X nL M n k (pc + 1) lv (.int (Int32.ofNat (M.2.1 a)) :: st)) : zW G X nL M n k pc lv (.ref a :: st) := by
  intro H locs ws ls h1 h2 h3 h4 h5 h6 h7
  obtain ⟨q, hq⟩ := h1.1 a (by rw [hk]; omega)
  rw [zE_ref hk] at hq
  exact va_alen O.1 O.2.1 O.2.2.2.2.2.2.1.1 h2 q (2 + t) hq ht rfl hd (K H locs ws ls h1 h2 h3 h4 h5 h6 h7)
/-- a new object -/
def zNew (own : String) (index ci N : Nat) : Prop := ∃ (C : String) (T : u_T) (ty : Nat → FieldType), vwCl[ci]? = some (C, T, N) ∧ (∀ w ∈ u_ws C T N, w ∈ zT) ∧ (∀ i, i < N → parseFieldDescriptor (T i).2.2.1 = some (ty i)) ∧ Cond.classLink own index C ∈ zT ∧ Cond.instantiable C N ∈ zT ∧ Cond.initialized C ∈ zT ∧ (∀ j, j < N → defaultValue (ty j) = vp_V (zF (zlay ci) 0 (fun _ => 0) (fun _ => none)) j) ∧ ci + 1 < 99
theorem z_new (O : zOK G X cc nL own ret nm) {index ci N : Nat} (F : zNew own index ci N) (hd : decode cc pc = .ok (.new index, 3)) (hn : n + 1 ≤ X.R.cells) (hk : k + N ≤ X.R.slots) (K : ∀ q : Nat, M.1 q = 0 → zW G X nL (zn M q (ci + 1) 0) (n + 1) (k + N) (pc + 3) lv (.ref q :: st)) : zW G X nL M n k pc lv st := by
  intro H locs ws ls h1 h2 h3 h4 h5 h6 h7
  obtain ⟨C, T, ty, c1, c2, c3, c4, c5, c6, c7, c8⟩ := F
  refine va_new O.1 O.2.1 O.2.2.2.2.2.1 c2 ty c3 O.2.2.2.2.1 (O.2.2.2.2.2.1 _ c4) (O.2.2.2.2.2.1 _ c5) (O.2.2.2.2.2.1 _ c6) O.2.2.2.2.2.2.1.1 h2 h3 h4 O.2.2.2.2.2.2.2.2.2 c1 c7 hn hk hd (fun q H1 g1 g2 g3 => ?_)
  have hf := h1.fresh g2
  exact K q hf H1 locs _ ls (h1.push hf (zn_ne M q _ _) (by simp [zn]) (by rw [zE_obj (M := zn M q (ci + 1) 0) (by simp [zn]) c8]; simp [zn])) g1 g2 g3 h5 hn hk
/-- a new array of ints, of booleans, of references -/
theorem z_newi (O : zOK G X cc nL own ret nm) {i : Int32} {N : Nat} (hw : Cond.arrayClass .int ∈ zT) (hd : decode cc pc = .ok (.newarray .int, 2)) (hi : ¬ i < 0) (hN : i.toNatClampNeg = N) (hb : N ≤ 100000000) (hn : n + 1 ≤ X.R.cells) (hk : k + N ≤ X.R.slots) (K : ∀ q : Nat, M.1 q = 0 → zW G X nL (zn M q 100 N) (n + 1) (k + N) (pc + 2) lv (.ref q :: st)) : zW G X nL M n k pc lv (.int i :: st) := by
  intro H locs ws ls h1 h2 h3 h4 h5 h6 h7
  refine va_newa (atype := .int) (ty := .int) (a0 := (N, .inl (fun _ => 0))) O.1 O.2.1 (O.2.2.2.2.2.1 _ hw) rfl O.2.2.2.2.2.2.1.1 h2 h3 h4 O.2.2.2.2.2.2.2.2.2 (fun cA => vp_cell_i ..) hi hN (by show N * 4 ≤ _; omega) hn hk hd (fun q cA H1 g0 g1 g2 g3 => ?_)
  have e : cA = G.2.2 0 := by
    have e1 := (g0.2 14 (cA, .int) rfl).2
    have e2 := (O.2.2.2.2.2.2.1.1.2 0 (G.2.2 0, .int) rfl).2
    exact Option.some.inj (Eq.trans (Eq.symm e1) e2)
  subst e
  have hf := h1.fresh g2
  exact K q hf H1 locs _ ls (h1.push hf (zn_ne M q _ _) (by simp [zn]) (by rw [zE_int (M := zn M q 100 N) (by simp [zn])]; simp [zn])) g1 g2 g3 h5 hn hk
theorem z_newz (O : zOK G X cc nL own ret nm) {i : Int32} {N : Nat} (hw : Cond.arrayClass .boolean ∈ zT) (hd : decode cc pc = .ok (.newarray .boolean, 2)) (hi : ¬ i < 0) (hN : i.toNatClampNeg = N) (hb : N ≤ 100000000) (hn : n + 1 ≤ X.R.cells) (hk : k + N ≤ X.R.slots) (K : ∀ q : Nat, M.1 q = 0 → zW G X nL (zn M q 101 N) (n + 1) (k + N) (pc + 2) lv (.ref q :: st)) : zW G X nL M n k pc lv (.int i :: st) := by
  intro H locs ws ls h1 h2 h3 h4 h5 h6 h7
  refine va_newa (atype := .boolean) (ty := .boolean) (a0 := (N, .inl (fun _ => 0))) O.1 O.2.1 (O.2.2.2.2.2.1 _ hw) rfl O.2.2.2.2.2.2.1.1 h2 h3 h4 O.2.2.2.2.2.2.2.2.2 (fun cA => vp_cell_i ..) hi hN (by show N * 1 ≤ _; omega) hn hk hd (fun q cA H1 g0 g1 g2 g3 => ?_)
  have e : cA = G.2.2 1 := by
    have e1 := (g0.2 14 (cA, .boolean) rfl).2
    have e2 := (O.2.2.2.2.2.2.1.1.2 1 (G.2.2 1, .boolean) rfl).2
    exact Option.some.inj (Eq.trans (Eq.symm e1) e2)
  subst e
  have hf := h1.fresh g2
  exact K q hf H1 locs _ ls (h1.push hf (zn_ne M q _ _) (by simp [zn]) (by rw [zE_bool (M := zn M q 101 N) (by simp [zn])]; simp [zn])) g1 g2 g3 h5 hn hk
theorem z_newr (O : zOK G X cc nL own ret nm) {index t N : Nat} {i : Int32} {C : String} (ht : (ztys G.2.2)[2 + t]? = some (G.2.2 (2 + t), .object C)) (hw : Cond.classLink own index C ∈ zT) (ho : C ∈ zAO) (hd : decode cc pc = .ok (.anewarray index, 3)) (hi : ¬ i < 0) (hN : i.toNatClampNeg = N) (hb : N ≤ 100000000) (hn : n + 1 ≤ X.R.cells) (hk : k + N ≤ X.R.slots) (K : ∀ q : Nat, M.1 q = 0 → zW G X nL (zn M q (102 + t) N) (n + 1) (k + N) (pc + 3) lv (.ref q :: st)) : zW G X nL M n k pc lv (.int i :: st) := by
  intro H locs ws ls h1 h2 h3 h4 h5 h6 h7
  refine va_newq O.1 O.2.1 O.2.2.2.2.1 (O.2.2.2.2.2.1 _ hw) (O.2.2.2.2.2.2.1.2.1 C ho) O.2.2.2.2.2.2.1.1 h2 h3 h4 O.2.2.2.2.2.2.2.2.2 hi hN (by omega) hn hk hd (fun q cA H1 g0 g1 g2 g3 => ?_)
  have e : cA = G.2.2 (2 + t) := by
    obtain ⟨_, _, _, _, _, e1⟩ := (g0.2 14 (cA, .object C) rfl).2
    obtain ⟨_, _, _, _, _, e2⟩ := (O.2.2.2.2.2.2.1.1.2 (2 + t) (G.2.2 (2 + t), .object C) ht).2
    exact Option.some.inj (Eq.trans (Eq.symm e1) e2)
  subst e
  have hf := h1.fresh g2
  exact K q hf H1 locs _ ls (h1.push hf (zn_ne M q _ _) (by simp [zn]) (by rw [zE_ref (M := zn M q (102 + t) N) (t := t) (by simp [zn])]; simp [zn])) g1 g2 g3 h5 hn hk
/-- arrays of longs that hold ints -/
theorem zE_long {cA : Nat → ClassId} {a : Nat} (hk : M.1 a = 99) : zE' cA M a = .inl (cA 13, M.2.1 a, .inr (.inl (fun j => Int32.toInt64 (M.2.2.1 a j)))) := by
  simp [zE', zE, hk]
theorem z_newl (O : zOK G X cc nL own ret nm) {i : Int32} {N : Nat} (hw : Cond.arrayClass .long ∈ zT) (hd : decode cc pc = .ok (.newarray .long, 2)) (hi : ¬ i < 0) (hN : i.toNatClampNeg = N) (hb : N ≤ 10000000) (hn : n + 1 ≤ X.R.cells) (hk : k + N ≤ X.R.slots) (K : ∀ q : Nat, M.1 q = 0 → zW G X nL (zn M q 99 N) (n + 1) (k + N) (pc + 2) lv (.ref q :: st)) : zW G X nL M n k pc lv (.int i :: st) := by
  intro H locs ws ls h1 h2 h3 h4 h5 h6 h7
  refine va_newa (atype := .long) (ty := .long) (a0 := (N, .inr (.inl (fun _ => 0)))) O.1 O.2.1 (O.2.2.2.2.2.1 _ hw) rfl O.2.2.2.2.2.2.1.1 h2 h3 h4 O.2.2.2.2.2.2.2.2.2 (fun cA => vp_cell_l ..) hi hN (by show N * 8 ≤ _; omega) hn hk hd (fun q cA H1 g0 g1 g2 g3 => ?_)
  have e : cA = G.2.2 13 := by
    have e1 := (g0.2 14 (cA, .long) rfl).2
    have e2 := (O.2.2.2.2.2.2.1.1.2 13 (G.2.2 13, .long) rfl).2
    exact Option.some.inj (Eq.trans (Eq.symm e1) e2)
  subst e
  have hf := h1.fresh g2
  exact K q hf H1 locs _ ls (h1.push hf (zn_ne M q _ _) (by simp [zn]) (by rw [zE_long (M := zn M q 99 N) (by simp [zn])]; simp [zn])) g1 g2 g3 h5 hn hk
theorem z_lald (O : zOK G X cc nL own ret nm) {a : Nat} {i : Int32} (hd : decode cc pc = .ok (.laload, 1)) (hk : M.1 a = 99) (hi : vp_in i (M.2.1 a)) (K : zW G X nL M n k (pc + 1) lv (.long (Int32.toInt64 (M.2.2.1 a i.toNatClampNeg)) :: st)) : zW G X nL M n k pc lv (.int i :: .ref a :: st) := by
  intro H locs ws ls h1 h2 h3 h4 h5 h6 h7
  obtain ⟨q, hq⟩ := h1.1 a (by rw [hk]; omega)
  rw [zE_long hk] at hq
  exact va_lald O.1 O.2.1 O.2.2.2.2.2.2.1.1 h2 q 13 hq rfl hi hd (K H locs ws ls h1 h2 h3 h4 h5 h6 h7)
theorem z_last (O : zOK G X cc nL own ret nm) {a : Nat} {i v : Int32} (hd : decode cc pc = .ok (.lastore, 1)) (hk : M.1 a = 99) (hi : vp_in i (M.2.1 a)) (K : zW G X nL (zi M a i.toNatClampNeg v) n k (pc + 1) lv st) : zW G X nL M n k pc lv (.long (Int32.toInt64 v) :: .int i :: .ref a :: st) := by
  intro H locs ws ls h1 h2 h3 h4 h5 h6 h7
  obtain ⟨q, hq⟩ := h1.1 a (by rw [hk]; omega)
  rw [zE_long hk] at hq
  refine va_last O.1 O.2.1 O.2.2.2.2.2.2.1.1 h2 h3 h4 q 13 hq rfl hi hd (fun H1 locs1 g1 g2 g3 => ?_)
  refine K H1 locs1 _ ls (h1.set h3 hq (zi_ne M a _ _) (by show M.1 a ≠ 0; rw [hk]; omega) ?_) g1 g2 g3 h5 h6 h7
  rw [zE_long (M := zi M a i.toNatClampNeg v) hk, zUpd_i]
  refine congrArg (fun f => (Sum.inl (G.2.2 13, M.2.1 a, Sum.inr (Sum.inl f)) : va_E)) (funext fun j => ?_)
  by_cases e : j = i.toNatClampNeg
  · simp [vp_updL, upd, e]
  · simp [vp_updL, upd, e]
end ZMEM
end
section
/-! ===== calls, returns, contracts ===== -/
section ZCALL
variable {G : zG} {X : zX} {cc : ByteArray} {nL : Nat} {own : String} {ret : Option FieldType} {nm : String} {M : zM} {n k pc : Nat} {lv : List (Nat × Value)} {st : List Value}
theorem zA_in {A : Nat → Prop} {cA : Nat → ClassId} {ws : va_W} {H0 H : Heap} {locs : List Loc} (h1 : zRep cA M ws) (h3 : va_D A ws) (h4 : va_S A H0 H locs) (hA : ∀ q : Nat, H0.size ≤ q → A q) : ∀ q, zA M H.size q → A q := by
  intro q h
  rcases h with h | h
  · obtain ⟨j, hj⟩ := h1.1 q h
    exact h3.2 j _ hj
  · exact hA q (Nat.le_trans h4.1 h)
/-- behind a call -/
theorem z_back (O : zOK G X cc nL own ret nm) {mc ms : Nat} {a : Array Value} {st0 : List Value} {post : zM → Option Value → Prop} {H : Heap} {locs : List Loc} {ws : va_W} {ls : Array Slot} (h1 : zRep G.2.2 M ws) (h3 : va_D X.A ws) (h4 : va_S X.A X.s.heap H locs) (h5 : lv_has ls nL lv)
    (hr : va_Run X.p G.1 X.e X.R X.s X.m X.a X.b X.h X.c H locs n k mc ms (F0 X.m pc ls st0) st (zQ G (zA M H.size) post a) (zA M H.size)) (hn : n + mc ≤ X.R.cells) (hk : k + ms ≤ X.R.slots)
    (K : ∀ (M' : zM) (v : Option Value), post M' v → zW G X nL M' (n + mc) (k + ms) (pc + 3) lv (v.toList ++ st)) : W X.p G.1 X.e X.R X.s X.m X.a X.b X.h X.c H locs n k (MQ X.b (zQ G X.A X.q) X.a X.s X.R.cells X.R.slots X.A) (F0 X.m pc ls st0) := by
  have hA := zA_in h1 h3 h4 O.2.2.2.2.2.2.2.2.2
  intro T hT Xs
  obtain ⟨v, st₀, t, T', L, h0, X', hL, e1, e2, ⟨⟨M', v', ws', hv, hp, hr', hP', hV', hD'⟩, hz, hkk⟩, stp⟩ := hr T hT Xs
  cases hv
  rw [h0] at hz hkk
  obtain ⟨t2, a1, b1⟩ := K M' v hp T'.heap (locs ++ L) ws' ls hr' (by rw [e1]; exact hP') (hD'.weaken (fun _ q _ h => hA q.1 h))
    ⟨Nat.le_trans h4.1 (by rw [e1]; exact hz), fun q g1 g2 => by rw [e1, hkk q (Nat.lt_of_lt_of_le g1 h4.1) (fun z => g2 (hA q z))]; exact h4.2.1 q g1 g2, fun q hq => by
      rcases List.mem_append.mp hq with h | h
      · exact h4.2.2 q h
      · exact hA _ (hL q h)⟩ h5 hn hk T' rfl X'
  exact ⟨t2, stp t2 a1, b1⟩
/-- what the tables say of a call of y by the pool's entry index of class own -/
def zCV (own : String) (index ci : Nat) (y : MethodName) (cy : ByteArray) (maxL : Nat) (ry : Option FieldType) (np : Nat) : Prop := ∃ (C : String) (T : u_T) (N : Nat), vwCl[ci]? = some (C, T, N) ∧ Cond.methodLink own index y ∈ zT ∧ Cond.instanceMethod y ∈ zT ∧ Cond.selects C y y ∈ zT ∧ Cond.initialized C ∈ zT ∧ Cond.code y cy maxL ry ∈ zT ∧ ci + 1 < 99 ∧ y.cls = C ∧ y.cls ≠ "java/lang/invoke/MethodHandle" ∧ y.cls ≠ "java/lang/invoke/VarHandle" ∧ (parseMethodDescriptor y.desc).map (fun d => d.parameters.length) = some np
def zCS (own : String) (index : Nat) (y : MethodName) (cy : ByteArray) (maxL : Nat) (ry : Option FieldType) (np : Nat) : Prop := Cond.methodLink own index y ∈ zT ∧ Cond.static y ∈ zT ∧ Cond.initialized y.cls ∈ zT ∧ Cond.code y cy maxL ry ∈ zT ∧ y.cls ≠ "java/lang/invoke/MethodHandle" ∧ y.cls ≠ "java/lang/invoke/VarHandle" ∧ (parseMethodDescriptor y.desc).map (fun d => d.parameters.length) = some np
def zCSN (own : String) (index : Nat) (y : MethodName) (cy : ByteArray) (maxL : Nat) (ry : Option FieldType) (np : Nat) : Prop := (∃ host : String, Cond.methodLinkNest own index y host ∈ zNW) ∧ Cond.static y ∈ zT ∧ Cond.initialized y.cls ∈ zT ∧ Cond.code y cy maxL ry ∈ zT ∧ y.cls ≠ "java/lang/invoke/MethodHandle" ∧ y.cls ≠ "java/lang/invoke/VarHandle" ∧ (parseMethodDescriptor y.desc).map (fun d => d.parameters.length) = some np
def zCI (own : String) (index : Nat) (y : MethodName) (cy : ByteArray) (maxL np : Nat) : Prop := Cond.methodLink own index y ∈ zT ∧ Cond.instanceMethod y ∈ zT ∧ Cond.initialized y.cls ∈ zT ∧ Cond.code y cy maxL none ∈ zT ∧ y.name = "<init>" ∧ y.cls ≠ "java/lang/invoke/MethodHandle" ∧ y.cls ≠ "java/lang/invoke/VarHandle" ∧ (parseMethodDescriptor y.desc).map (fun d => d.parameters.length) = some np
def zCIN (own : String) (index : Nat) (y : MethodName) (cy : ByteArray) (maxL np : Nat) : Prop := (∃ host : String, Cond.methodLinkNest own index y host ∈ zNW) ∧ Cond.instanceMethod y ∈ zT ∧ Cond.initialized y.cls ∈ zT ∧ Cond.code y cy maxL none ∈ zT ∧ y.name = "<init>" ∧ y.cls ≠ "java/lang/invoke/MethodHandle" ∧ y.cls ≠ "java/lang/invoke/VarHandle" ∧ (parseMethodDescriptor y.desc).map (fun d => d.parameters.length) = some np
variable {index np maxL ci b : Nat} {y : MethodName} {cy : ByteArray} {ry : Option FieldType} {rm : Room} {As : List Value} {post : zM → Option Value → Prop}
/-- room for the callee -/
def zRm (X : zX) (rm : Room) (maxL : Nat) : Prop := rm.frames + 1 ≤ X.R.frames ∧ 8 + (maxL + 11) + rm.locals ≤ X.R.locals
theorem z_callV (O : zOK G X cc nL own ret nm) (L : zCV own index ci y cy maxL ry np) (hM : zC G y cy maxL ry rm M (.ref b :: As) post) (hk : M.1 b = ci + 1) (hn : As.length = np) (hR : zRm X rm maxL) (hst : (st.map fun v => v.category).sum ≤ 8) (hd : decode cc pc = .ok (.invokevirtual index, 3)) (g1 : n + rm.cells ≤ X.R.cells) (g2 : k + rm.slots ≤ X.R.slots) {st0 : List Value} (hs : st0 = As.reverse ++ .ref b :: st)
    (K : ∀ (M' : zM) (v : Option Value), post M' v → zW G X nL M' (n + rm.cells) (k + rm.slots) (pc + 3) lv (v.toList ++ st)) : zW G X nL M n k pc lv st0 := by
  intro H locs ws ls h1 h2 h3 h4 h5 h6 h7
  obtain ⟨C, T, N, c1, c2, c3, c4, c5, c6, c7, c8, c9, c10, c11⟩ := L
  obtain ⟨q, hq⟩ := h1.1 b (by rw [hk]; omega)
  rw [zE_obj hk c7] at hq
  have hts := O.2.2.2.2.2.1
  refine z_back O h1 h3 h4 h5 (va_runV (Ts := zT) (own := own) (n := np) ⟨O.1, O.2.1, O.2.2.2.1, O.2.2.2.2.1, hts⟩ (hM H.size) (C := C) (maxL := maxL) (bytes := cy) (ret := ry) ⟨callB_of np hts (zT_good (fun _ h => h) c6) rfl rfl rfl (by rw [c8]; exact hts _ c5) (hts _ c2) ⟨c9, c10, c11⟩ hR, hts _ c3, hts _ c4⟩ ⟨zP_blind, va_recv O.2.2.2.2.2.2.1.1 h2 c1 hq, fun U hU hW => ⟨rfl, by rw [hU], O.2.2.2.2.2.2.1.moved hW, ws, h1, by rw [hU]; exact h2, h3.weaken (fun _ _ _ _ => trivial)⟩⟩ rfl hn h5.1 hs (lv_room hst) hd ⟨g1, g2⟩) g1 g2 K
theorem z_callS (O : zOK G X cc nL own ret nm) (L : zCS own index y cy maxL ry np) (hM : zC G y cy maxL ry rm M As post) (hn : As.length = np) (hR : zRm X rm maxL) (hst : (st.map fun v => v.category).sum ≤ 8) (hd : decode cc pc = .ok (.invokestatic index, 3)) (g1 : n + rm.cells ≤ X.R.cells) (g2 : k + rm.slots ≤ X.R.slots) {st0 : List Value} (hs : st0 = As.reverse ++ st)
    (K : ∀ (M' : zM) (v : Option Value), post M' v → zW G X nL M' (n + rm.cells) (k + rm.slots) (pc + 3) lv (v.toList ++ st)) : zW G X nL M n k pc lv st0 := by
  intro H locs ws ls h1 h2 h3 h4 h5 h6 h7
  obtain ⟨c2, c3, c5, c6, c9, c10, c11⟩ := L
  have hts := O.2.2.2.2.2.1
  refine z_back O h1 h3 h4 h5 (va_runS (Ts := zT) (own := own) (n := np) ⟨O.1, O.2.1, O.2.2.2.1, O.2.2.2.2.1, hts⟩ (hM H.size) (maxL := maxL) (bytes := cy) (ret := ry) ⟨callB_of np hts (zT_good (fun _ h => h) c6) rfl rfl rfl (hts _ c5) (hts _ c2) ⟨c9, c10, c11⟩ hR, hts _ c3⟩ ⟨zP_blind, fun U hU hW => ⟨rfl, by rw [hU], O.2.2.2.2.2.2.1.moved hW, ws, h1, by rw [hU]; exact h2, h3.weaken (fun _ _ _ _ => trivial)⟩⟩ rfl hn h5.1 hs (lv_room hst) hd ⟨g1, g2⟩) g1 g2 K
theorem z_callSN (O : zOK G X cc nL own ret nm) (L : zCSN own index y cy maxL ry np) (hM : zC G y cy maxL ry rm M As post) (hn : As.length = np) (hR : zRm X rm maxL) (hst : (st.map fun v => v.category).sum ≤ 8) (hd : decode cc pc = .ok (.invokestatic index, 3)) (g1 : n + rm.cells ≤ X.R.cells) (g2 : k + rm.slots ≤ X.R.slots) {st0 : List Value} (hs : st0 = As.reverse ++ st)
    (K : ∀ (M' : zM) (v : Option Value), post M' v → zW G X nL M' (n + rm.cells) (k + rm.slots) (pc + 3) lv (v.toList ++ st)) : zW G X nL M n k pc lv st0 := by
  intro H locs ws ls h1 h2 h3 h4 h5 h6 h7
  obtain ⟨⟨host, c2⟩, c3, c5, c6, c9, c10, c11⟩ := L
  have hts := O.2.2.2.2.2.1
  refine z_back O h1 h3 h4 h5 (va_runSN (Ts := zT) (own := own) (n := np) ⟨O.1, O.2.1, O.2.2.2.1, O.2.2.2.2.1, hts⟩ (hM H.size) (maxL := maxL) (bytes := cy) (ret := ry) (host := host) ⟨va_cnB np hts (zT_good (fun _ h => h) c6) rfl rfl rfl (O.2.2.2.2.2.2.1.2.2.1 _ c2) (hts _ c5) ⟨c9, c10, c11⟩ hR, hts _ c3, trivial⟩ ⟨zP_blind, fun U hU hW => ⟨rfl, by rw [hU], O.2.2.2.2.2.2.1.moved hW, ws, h1, by rw [hU]; exact h2, h3.weaken (fun _ _ _ _ => trivial)⟩⟩ rfl hn h5.1 hs (lv_room hst) hd ⟨g1, g2⟩) g1 g2 K
theorem z_callI (O : zOK G X cc nL own ret nm) (L : zCI own index y cy maxL np) (hM : zC G y cy maxL none rm M (.ref b :: As) post) (hn : As.length = np) (hR : zRm X rm maxL) (hst : (st.map fun v => v.category).sum ≤ 8) (hd : decode cc pc = .ok (.invokespecial index, 3)) (g1 : n + rm.cells ≤ X.R.cells) (g2 : k + rm.slots ≤ X.R.slots) {st0 : List Value} (hs : st0 = As.reverse ++ .ref b :: st)
    (K : ∀ (M' : zM) (v : Option Value), post M' v → zW G X nL M' (n + rm.cells) (k + rm.slots) (pc + 3) lv (v.toList ++ st)) : zW G X nL M n k pc lv st0 := by
  intro H locs ws ls h1 h2 h3 h4 h5 h6 h7
  obtain ⟨c2, c3, c5, c6, c8, c9, c10, c11⟩ := L
  have hts := O.2.2.2.2.2.1
  refine z_back O h1 h3 h4 h5 (va_runI (Ts := zT) (own := own) (n := np) ⟨O.1, O.2.1, O.2.2.2.1, O.2.2.2.2.1, hts⟩ (hM H.size) (maxL := maxL) (bytes := cy) ⟨callB_of np hts (zT_good (fun _ h => h) c6) rfl rfl rfl (hts _ c5) (hts _ c2) ⟨c9, c10, c11⟩ hR, c8, hts _ c3⟩ ⟨zP_blind, fun U hU hW => ⟨rfl, by rw [hU], O.2.2.2.2.2.2.1.moved hW, ws, h1, by rw [hU]; exact h2, h3.weaken (fun _ _ _ _ => trivial)⟩⟩ rfl hn h5.1 hs (lv_room hst) hd ⟨g1, g2⟩) g1 g2 K
theorem z_callIN (O : zOK G X cc nL own ret nm) (L : zCIN own index y cy maxL np) (hM : zC G y cy maxL none rm M (.ref b :: As) post) (hn : As.length = np) (hR : zRm X rm maxL) (hst : (st.map fun v => v.category).sum ≤ 8) (hd : decode cc pc = .ok (.invokespecial index, 3)) (g1 : n + rm.cells ≤ X.R.cells) (g2 : k + rm.slots ≤ X.R.slots) {st0 : List Value} (hs : st0 = As.reverse ++ .ref b :: st)
    (K : ∀ (M' : zM) (v : Option Value), post M' v → zW G X nL M' (n + rm.cells) (k + rm.slots) (pc + 3) lv (v.toList ++ st)) : zW G X nL M n k pc lv st0 := by
  intro H locs ws ls h1 h2 h3 h4 h5 h6 h7
  obtain ⟨⟨host, c2⟩, c3, c5, c6, c8, c9, c10, c11⟩ := L
  have hts := O.2.2.2.2.2.1
  refine z_back O h1 h3 h4 h5 (va_runIN (Ts := zT) (own := own) (n := np) ⟨O.1, O.2.1, O.2.2.2.1, O.2.2.2.2.1, hts⟩ (hM H.size) (maxL := maxL) (bytes := cy) (host := host) ⟨va_cnB np hts (zT_good (fun _ h => h) c6) rfl rfl rfl (O.2.2.2.2.2.2.1.2.2.1 _ c2) (hts _ c5) ⟨c9, c10, c11⟩ hR, c8, hts _ c3⟩ ⟨zP_blind, fun U hU hW => ⟨rfl, by rw [hU], O.2.2.2.2.2.2.1.moved hW, ws, h1, by rw [hU]; exact h2, h3.weaken (fun _ _ _ _ => trivial)⟩⟩ rfl hn h5.1 hs (lv_room hst) hd ⟨g1, g2⟩) g1 g2 K
/-- Object's own constructor -/
theorem z_obj (O : zOK G X cc nL own ret nm) {a : Nat} (h1w : Cond.methodLink own index objectInit ∈ zT) (h2w : Cond.instanceMethod objectInit ∈ zT) (h3w : Cond.code objectInit ⟨#[0xb1]⟩ 1 none ∈ zT) (hd : decode cc pc = .ok (.invokespecial index, 3)) (hf : 1 ≤ X.R.frames) (hl : (st.map fun v => v.category).sum + 12 ≤ X.R.locals) (K : zW G X nL M n k (pc + 3) lv st) : zW G X nL M n k pc lv (.ref a :: st) := by
  intro H locs ws ls h1 h2 h3 h4 h5 h6 h7
  have hts := O.2.2.2.2.2.1
  exact W.objInit O.1 O.2.1 O.2.2.2.2.1 (hts _ h1w) (hts _ h2w) (hts _ h3w) rfl (h5.1.trans O.2.2.2.1.symm) rfl hd hf (by show 2 * 0 + _ + 12 ≤ _; omega) (K H locs ws ls h1 h2 h3 h4 h5 h6 h7)
theorem z_end (O : zOK G X cc nL own ret nm) {H : Heap} {locs : List Loc} {ws : va_W} (v : Option Value) (h1 : zRep G.2.2 M ws) (h2 : va_P G.2.1 vwCl ws H) (h3 : va_D X.A ws) (h4 : va_S X.A X.s.heap H locs) (hq : X.q M v) (t : State) (ht : t.heap = H) (hW : X.s.WarmedH t.vm) : zQ G X.A X.q X.a X.s (.returned v) t := ⟨⟨M, v, ws, rfl, hq, h1, by rw [ht]; exact h2, O.2.2.2.2.2.2.1.moved hW, h3⟩, h4.F ht⟩
theorem z_iret (O : zOK G X cc nL own (some .int) nm) {v : Int32} (hd : decode cc pc = .ok (.ireturn, 1)) (hq : X.q M (some (.int v))) : zW G X nL M n k pc lv [.int v] := fun H locs ws ls h1 h2 h3 h4 h5 h6 h7 => W.widen h6 h7 (W.iret O.1 O.2.1 O.2.2.1 (fun t ht hW => z_end O _ h1 h2 h3 h4 hq t ht hW) h4.2.2 hd (hlocks := O.2.2.2.2.2.2.2.1))
theorem z_zret (O : zOK G X cc nL own (some .boolean) nm) {v : Int32} (hd : decode cc pc = .ok (.ireturn, 1)) (hv : v = 0 ∨ v = 1) (hq : X.q M (some (.int v))) : zW G X nL M n k pc lv [.int v] := fun H locs ws ls h1 h2 h3 h4 h5 h6 h7 => W.widen h6 h7 (W.zret O.1 O.2.1 O.2.2.1 (by rcases hv with rfl | rfl <;> rfl) (fun t ht hW => z_end O _ h1 h2 h3 h4 hq t ht hW) h4.2.2 hd (hlocks := O.2.2.2.2.2.2.2.1))
theorem z_lret (O : zOK G X cc nL own (some .long) nm) {v : Int64} (hd : decode cc pc = .ok (.lreturn, 1)) (hq : X.q M (some (.long v))) : zW G X nL M n k pc lv [.long v] := fun H locs ws ls h1 h2 h3 h4 h5 h6 h7 => W.widen h6 h7 (W.lret O.1 O.2.1 O.2.2.1 (fun t ht hW => z_end O _ h1 h2 h3 h4 hq t ht hW) h4.2.2 hd (hlocks := O.2.2.2.2.2.2.2.1))
theorem z_vret (O : zOK G X cc nL own none nm) (hd : decode cc pc = .ok (.return_, 1)) (hq : X.q M none) : zW G X nL M n k pc lv [] := fun H locs ws ls h1 h2 h3 h4 h5 h6 h7 => W.widen h6 h7 (W.vret O.1 O.2.1 O.2.2.1 (fun t ht hW => z_end O _ h1 h2 h3 h4 hq t ht hW) h4.2.2 hd (hlocks := O.2.2.2.2.2.2.2.1))
theorem zrf_or (r : Option Nat) : va_rf r = .null ∨ ∃ a, va_rf r = .ref a := by
  cases r with
  | none => exact Or.inl rfl
  | some a => exact Or.inr ⟨a, rfl⟩
theorem z_aretO {C : String} (O : zOK G X cc nL own (some (.object C)) nm) (r : Option Nat) (hd : decode cc pc = .ok (.areturn, 1)) (hq : X.q M (some (va_rf r))) : zW G X nL M n k pc lv [va_rf r] := fun H locs ws ls h1 h2 h3 h4 h5 h6 h7 => W.widen h6 h7 (W.aret O.1 O.2.1 O.2.2.1 (Or.inl ⟨_, rfl⟩) (zrf_or r) (fun t ht hW => z_end O _ h1 h2 h3 h4 hq t ht hW) h4.2.2 hd (hlocks := O.2.2.2.2.2.2.2.1))
theorem z_aret {C : String} (O : zOK G X cc nL own (some (.object C)) nm) {a : Nat} (hd : decode cc pc = .ok (.areturn, 1)) (hq : X.q M (some (.ref a))) : zW G X nL M n k pc lv [.ref a] := z_aretO O (some a) hd hq
theorem z_aretN {C : String} (O : zOK G X cc nL own (some (.object C)) nm) (hd : decode cc pc = .ok (.areturn, 1)) (hq : X.q M (some .null)) : zW G X nL M n k pc lv [.null] := z_aretO O none hd hq
/-- a contract out of the walk from the method's entry -/
theorem z_intro {av : List Value} (hy : plainName y.cls = true) (hav : (lg_sl av).length ≤ maxL) (body : ∀ X : zX, zOK G X cy maxL y.cls ry y.name → X.R = rm → X.q = post → zW G X maxL M 0 0 0 (lv_args 0 av) []) : zC G y cy maxL ry rm M av post := by
  intro sz
  refine Met.ofW (cc := cy) (maxL := maxL) (ret := ry) hy rfl ?_
  intro p e s m args below meth c s₁ B hml hv
  obtain ⟨rfl, hsz, hV, ws, hr, hP, hD⟩ := hv
  have hts := atoms_spec B.pre
  subst hsz
  rw [lg_entry_eq]
  have hA : ∀ q : Nat, s.heap.size ≤ q → zA M s.heap.size q := fun q h => Or.inr h
  refine body (p, e, rm, s, m, av.toArray, below, meth, c, zA M s.heap.size, post) ⟨B.exec, B.bytes, B.returns, hml, findClass_of_methodNamed B.named, fun w hw => hts w (List.mem_cons_of_mem _ hw), hV, B.notSynchronized, (name_of_methodNamed B.named B.method).1, hA⟩ rfl rfl s.heap [] ws _ hr hP ⟨hD.1, fun j q hq => Or.inl (hr.2 j q hq).1⟩ va_S.rf (lv_entry av hav) (Nat.zero_le _) (Nat.zero_le _)
/-- a contract may promise less -/
theorem zC.weak {av : List Value} {post' : zM → Option Value → Prop} (h : zC G y cy maxL ry rm M av post) (hp : ∀ M' v, post M' v → post' M' v) : zC G y cy maxL ry rm M av post' := by
  intro sz
  have h1 := h sz
  intro p e ha hc hk s m args below hf happ hP hK
  obtain ⟨j, o, g1, g2, g3, ⟨⟨⟨M', v, ws, q1, q2, q3⟩, q4⟩, g5⟩⟩ := h1 p e ha hc hk s m args below hf happ hP hK
  exact ⟨j, o, g1, g2, g3, ⟨⟨M', v, ws, q1, hp _ _ q2, q3⟩, q4⟩, g5⟩
end ZCALL
end
section
/-! ===== new int[N][K] ===== -/
/-- the outer row when i of its places are filled -/
def zo (cA : ClassId) (N h i : Nat) : Cell := arrV cA N (fun j => va_rf (if j < i then some (h + 1 + j) else none))
theorem zo_next (cA : ClassId) (N h i : Nat) : (zo cA N h i).setSlot i (.ref (h + 1 + i)) = zo cA N h (i + 1) := by
  unfold zo
  rw [arrV_store]
  refine congrArg (arrV cA N) (funext fun j => ?_)
  by_cases e : j = i
  · subst e
    simp [updV, va_rf]
  · by_cases hj : j < i
    · simp [updV, e, hj, show j < i + 1 by omega]
    · simp [updV, e, hj, show ¬ j < i + 1 by omega]
/-- the state when i inner rows are made -/
def zfl (cA comp : ClassId) (N K : Nat) (U : State) : Nat → State
  | 0 => U.pushCell (zo cA N U.heap.size 0)
  | i + 1 => ((zfl cA comp N K U i).pushCell (arrV comp K (fun _ => .int 0))).setCell U.heap.size (zo cA N U.heap.size (i + 1))
theorem zfl_facts (cA comp : ClassId) (N K : Nat) (U : State) : ∀ i : Nat, (zfl cA comp N K U i).heap.size = U.heap.size + 1 + i ∧ (zfl cA comp N K U i).heap[U.heap.size]? = some (zo cA N U.heap.size i) ∧ (zfl cA comp N K U i).vm = U.vm ∧ (zfl cA comp N K U i).slotsUsed = U.slotsUsed + N + i * K ∧ (∀ q : Nat, q < U.heap.size → (zfl cA comp N K U i).heap[q]? = U.heap[q]?) ∧ ∀ j : Nat, j < i → (zfl cA comp N K U i).heap[U.heap.size + 1 + j]? = some (arrV comp K (fun _ => .int 0))
  | 0 => by
    refine ⟨by simp [zfl, State.pushCell], by simp [zfl, State.pushCell], rfl, by simp [zfl, zo, arrV, State.pushCell], fun q hq => State.heap_pushCell_of_lt _ _ hq, fun j hj => absurd hj (Nat.not_lt_zero _)⟩
  | i + 1 => by
    obtain ⟨f1, f2, f3, f4, f5, f6⟩ := zfl_facts cA comp N K U i
    have hlt : U.heap.size < (zfl cA comp N K U i).heap.size := by omega
    have hb : ((zfl cA comp N K U i).pushCell (arrV comp K (fun _ => .int 0))).heap[U.heap.size]? = some (zo cA N U.heap.size i) := by rw [State.heap_pushCell_of_lt (h := hlt)]; exact f2
    refine ⟨?_, State.heap_setCell_self hb, f3, ?_, fun q hq => ?_, fun j hj => ?_⟩
    · simp [zfl, State.setCell, State.pushCell, f1]; omega
    · have e : (zfl cA comp N K U (i + 1)).slotsUsed = (zfl cA comp N K U i).slotsUsed + K := by simp [zfl, State.setCell, State.pushCell, arrV]
      rw [e, f4, Nat.succ_mul]; omega
    · show (((zfl cA comp N K U i).pushCell _).setCell U.heap.size _).heap[q]? = _
      have hq2 : q < (zfl cA comp N K U i).heap.size := by omega
      rw [State.heap_setCell_other (show U.heap.size ≠ q by omega), State.heap_pushCell_of_lt (h := hq2)]
      exact f5 q hq
    · show (((zfl cA comp N K U i).pushCell _).setCell U.heap.size _).heap[U.heap.size + 1 + j]? = _
      rw [State.heap_setCell_other (show U.heap.size ≠ U.heap.size + 1 + j by omega)]
      rcases Nat.lt_or_ge j i with hj2 | hj2
      · have hq2 : U.heap.size + 1 + j < (zfl cA comp N K U i).heap.size := by omega
        rw [State.heap_pushCell_of_lt (h := hq2)]
        exact f6 j hj2
      · have e : U.heap.size + 1 + j = (zfl cA comp N K U i).heap.size := by omega
        rw [e]
        exact State.heap_pushCell_size _ _
theorem zfl_top (cA comp : ClassId) (N K : Nat) (U : State) (f : JFrame) : ∀ i : Nat, zfl cA comp N K (U.setTop f) i = (zfl cA comp N K U i).setTop f
  | 0 => rfl
  | i + 1 => by simp only [zfl, zfl_top cA comp N K U f i, State.heap_setTop, State.pushCell_setTop, State.setCell_setTop]
section ZMULTI
variable {p : Program} {l : Launch} {e : Env} {R : Room} {s : State} {m : MethodId} {args : Array Value} {below : List Frame} {meth : Method} {c : Code} {T : State} {locs : List Loc} {cells slots : Nat}
theorem zfl_stand (X : Stand p l e R s m args below meth c T locs cells slots) (cA comp : ClassId) (N K : Nat) : ∀ i : Nat, Stand p l e R s m args below meth c (zfl cA comp N K T i) (locs ++ (List.range i).map fun j => (⟨T.heap.size, j⟩ : Loc)) (cells + 1 + i) (slots + N + i * K)
  | 0 => by
    have h := X.pushed (zo cA N T.heap.size 0)
    have e1 : (zo cA N T.heap.size 0).slots.size = N := by simp [zo, arrV]
    rw [e1] at h
    simpa [zfl] using h
  | i + 1 => by
    have Xi := zfl_stand X cA comp N K i
    obtain ⟨f1, f2, -⟩ := zfl_facts cA comp N K T i
    have hq2 : T.heap.size < (zfl cA comp N K T i).heap.size := by omega
    have hb : ((zfl cA comp N K T i).pushCell (arrV comp K (fun _ => .int 0))).heap[T.heap.size]? = some (zo cA N T.heap.size i) := by rw [State.heap_pushCell_of_lt (h := hq2)]; exact f2
    have h := (Xi.pushed (arrV comp K (fun _ => .int 0))).stored hb i (.ref (T.heap.size + 1 + i))
    have e1 : (arrV comp K (fun _ => Value.int 0)).slots.size = K := by simp [arrV]
    rw [e1, zo_next] at h
    have e2 : (locs ++ (List.range (i + 1)).map fun j => (⟨T.heap.size, j⟩ : Loc)) = (locs ++ (List.range i).map fun j => (⟨T.heap.size, j⟩ : Loc)) ++ [⟨T.heap.size, i⟩] := by simp [List.range_succ]
    have e3 : slots + N + (i + 1) * K = slots + N + i * K + K := by rw [Nat.succ_mul]; omega
    rw [e2, e3]
    exact h
end ZMULTI
theorem zrep_arr (c : ClassId) (N : Nat) (v : Value) : ({ cls := c, slots := Array.replicate N v } : Cell) = arrV c N (fun _ => v) := by rw [← arrV_new]
section ZMAKE
variable {E : CtlPost} {e : Env} {d : Bool} {acts : List Action} {s : State}
/-- what 'make' does: N rows of K ints -/
theorem zmake {cA comp cc : ClassId} {kA kC : Class} {n k : Int32} {N K : Nat} (hA : s.vm.classes[cA]? = some kA) (hkA : kA.kind = .array comp (.array .int)) (hC : s.vm.classes[comp]? = some kC) (hkC : kC.kind = .array cc .int) (hn : ¬ n < 0) (hk : ¬ k < 0) (hN : n.toNatClampNeg = N) (hK : k.toNatClampNeg = K)
    (l1 : ¬ N > e.platform.arrayLengthLimit) (l2 : ¬ N * 4 > e.platform.maxHeapBytes) (l3 : ¬ K > e.platform.arrayLengthLimit) (l4 : ¬ K * 4 > e.platform.maxHeapBytes) (r1 : s.heap.size + 1 + N ≤ e.platform.maxCells) (r2 : s.slotsUsed + N + N * K ≤ e.platform.maxSlots)
    {Q : Addr → Pre} (hq : ∀ d' acts', Q s.heap.size d' acts' (zfl cA comp N K s N)) : wp (Op.multianewarray.make cA [n, k]) Q E e d acts s := by
  subst hN
  subst hK
  have hfind : ([k].find? (· < 0)) = none := by simp [hk]
  rw [Op.multianewarray.make]
  simp only [wp_bind', W.ite, hn, if_false, wp_pure', W.theClass, hA, hkA, Option.some.injEq, exists_eq_left']
  refine W.newArray_of hA hkA l1 l2 (by omega) (by have := Nat.zero_le (n.toNatClampNeg * k.toNatClampNeg); omega) rfl (fun acts' => ?_)
  simp only [hfind]
  rw [ite_self, wp_bind', Std.Legacy.Range.forIn_eq_forIn_range']
  have hsz : ([:n.toNatClampNeg] : Std.Legacy.Range).size = n.toNatClampNeg := by simp [Std.Legacy.Range.size]
  rw [hsz]
  show wp (forIn (List.range' 0 n.toNatClampNeg 1) PUnit.unit _) _ E e d acts' _
  refine wp_forIn_inv (fun rest u => ∃ i, i + rest.length = n.toNatClampNeg ∧ rest = List.range' i rest.length ∧ u = zfl cA comp n.toNatClampNeg k.toNatClampNeg s i) _ _ ⟨0, by simp, by simp, ?_⟩ ?_ ?_
  · show s.pushCell _ = s.pushCell _
    rw [zrep_arr]
    simp [zo, va_rf]
  · rintro x rest u d' acts' Q' ⟨i, hi, hl, rfl⟩ hnext
    simp only [List.length_cons] at hi hl
    rw [List.range'_succ] at hl
    obtain ⟨rfl, hrest⟩ : x = i ∧ rest = List.range' (i + 1) rest.length := ⟨(List.cons.inj hl).1, (List.cons.inj hl).2⟩
    obtain ⟨f1, f2, f3, f4, -, -⟩ := zfl_facts cA comp n.toNatClampNeg k.toNatClampNeg s x
    have hmul : x * k.toNatClampNeg + k.toNatClampNeg ≤ n.toNatClampNeg * k.toNatClampNeg := by
      have := Nat.mul_le_mul_right k.toNatClampNeg (show x + 1 ≤ n.toNatClampNeg by omega)
      rw [Nat.succ_mul] at this
      exact this
    simp only [wp_bind']
    rw [Op.multianewarray.make]
    simp only [wp_bind', W.ite, hk, if_false, wp_pure', W.theClass, f3, hC, hkC, Option.some.injEq, exists_eq_left']
    refine W.newArray_of (by rw [f3]; exact hC) hkC l3 l4 (by omega) (by rw [f4]; omega) rfl (fun acts2 => ?_)
    simp only [wp_bind', W.writeLoc, wp_pure']
    have hq2 : s.heap.size < (zfl cA comp n.toNatClampNeg k.toNatClampNeg s x).heap.size := by omega
    have hb : ((zfl cA comp n.toNatClampNeg k.toNatClampNeg s x).pushCell ({ cls := comp, slots := Array.replicate k.toNatClampNeg (defaultValue .int) } : Cell)).heap[s.heap.size]? = some (zo cA n.toNatClampNeg s.heap.size x) := by rw [State.heap_pushCell_of_lt (h := hq2)]; exact f2
    refine ⟨zo cA n.toNatClampNeg s.heap.size x, hb, by simp [zo, arrV], by simp [zo, arrV]; omega, ?_, hnext _ _ _ ⟨x + 1, by omega, hrest, ?_⟩⟩
    · simp [zo, arrV, State.fitsSlot, State.slotType?, f3, hA, hkA, fits]
    · rw [f1, zo_next, zrep_arr]
      rfl
  · rintro u d' acts' ⟨i, hi, -, rfl⟩
    simp only [List.length_nil, Nat.add_zero] at hi
    subst hi
    simp only [wp_pure']
    exact hq _ _
end ZMAKE
section ZMULTIW
variable {p : Program} {l : Launch} {e : Env} {R : Room} {s : State} {m : MethodId} {args : Array Value} {below : List Frame} {meth : Method} {c : Code} {H : Heap} {locs : List Loc} {cells slots : Nat} {Q : State → Prop}
theorem zWmulti {cc : ByteArray} (hexec : p.tables.exec = Jvm.exec) (hb : c.code = cc) {own : String} {index : Nat} (hown : s.vm.findClass own = some m.cls) (hclink : (Cond.classLink own index "[[I").before args s = true) {cA comp cy : ClassId} {kA kC : Class} (hA : s.vm.classes[cA]? = some kA) (hkA : kA.kind = .array comp (.array .int)) (hfA : s.vm.findClass "[[I" = some cA) (hC : s.vm.classes[comp]? = some kC) (hkC : kC.kind = .array cy .int)
    {pc N K : Nat} {ls : Array Slot} {n k : Int32} {rest : List Value} (hdg : decode cc pc = .ok (.multianewarray index 2, 4)) (hn : ¬ n < 0) (hk : ¬ k < 0) (hN : n.toNatClampNeg = N) (hK : k.toNatClampNeg = K) (bN : N ≤ 100000000) (bK : K ≤ 100000000) (hcells : cells + (1 + N) ≤ R.cells) (hslots : slots + (N + N * K) ≤ R.slots)
    (kk : ∀ H' : Heap, H'.size = H.size + 1 + N → H'[H.size]? = some (zo cA N H.size N) → (∀ j : Nat, j < N → H'[H.size + 1 + j]? = some (arrV comp K (fun _ => .int 0))) → (∀ q : Nat, q < H.size → H'[q]? = H[q]?) →
      W p l e R s m args below meth c H' (locs ++ (List.range N).map fun j => (⟨H.size, j⟩ : Loc)) (cells + 1 + N) (slots + N + N * K) Q (F0 m (pc + 4) ls (.ref H.size :: rest))) : W p l e R s m args below meth c H locs cells slots Q (F0 m pc ls (.int k :: .int n :: rest)) := by
  intro T hT X
  subst hT
  subst hb
  have hpl : e.platform.magicAccessors = ({} : Platform).magicAccessors := by rw [X.admits.platform]
  obtain ⟨c0, hf0, hcl⟩ := Cond.classLink_spec hown hclink e.platform hpl
  cases hfA.symm.trans hf0
  obtain ⟨hg₁, hwarm₁, hready₁⟩ := State.classEntry (e := e) X.warmed hcl
  generalize T.vm.noted m.cls index (.cls cA) = vm₁ at hg₁ hwarm₁ hready₁
  have hal : s.vm.Alike vm₁ := hwarm₁.alike
  obtain ⟨kA₁, hA₁, eA⟩ := hal.2.2 _ _ hA
  obtain ⟨kC₁, hC₁, eC⟩ := hal.2.2 _ _ hC
  have X₁ := X.noted hwarm₁
  have XF := zfl_stand X₁ cA comp N K N
  obtain ⟨f1, f2, f3, f4, f5, f6⟩ := zfl_facts cA comp N K (T.setVm vm₁) N
  obtain ⟨r1, r2⟩ := X.roomAbove hcells hslots
  obtain ⟨t, a1, b1⟩ := kk (zfl cA comp N K (T.setVm vm₁) N).heap f1 f2 f6 f5 (zfl cA comp N K (T.setVm vm₁) N) rfl XF
  refine ⟨t, ?_, b1⟩
  jvm_step X.here [hexec, hdg]
  simp only [Op.multianewarray.sem, wp_bind', W.resolveClassAt_links (State.method?_setTop (F0 m pc ls (.int k :: .int n :: rest)) X.here.top) hg₁]
  rw [W.popN, if_neg (by decide)]
  refine ⟨F0 m pc ls (.int k :: .int n :: rest), State.topJava?_setTop' (s := T.setVm vm₁) _ X.here.top, [.int n, .int k], rest, rfl, rfl, ?_⟩
  simp only [List.mapM_cons, List.mapM_nil, wp_bind', wp_pure']
  have eS : ((T.setTop (F0 m pc ls (.int k :: .int n :: rest))).setVm vm₁).setTop (F0 m pc ls rest) = (T.setVm vm₁).setTop (F0 m pc ls rest) := by
    show ((T.setVm vm₁).setTop _).setTop _ = _
    rw [State.setTop_setTop]
  refine zmake (kA := kA₁) (kC := kC₁) (comp := comp) (cc := cy) (N := N) (K := K) hA₁ (by rw [eA]; exact hkA) hC₁ (by rw [eC]; exact hkC) hn hk hN hK (by rw [Launch.admits_arrayLengthLimit X.admits]; omega) (by rw [Launch.admits_maxHeapBytes X.admits]; omega) (by rw [Launch.admits_arrayLengthLimit X.admits]; omega) (by rw [Launch.admits_maxHeapBytes X.admits]; omega) (by show T.heap.size + 1 + _ ≤ _; omega) (by show T.slotsUsed + _ + _ ≤ _; omega) (fun d' acts' => ?_)
  rw [eS, zfl_top]
  simp only [wp_bind', W.mark, W.pushRef, State.topJava?_setTop' _ XF.here.top, Option.some.injEq, exists_eq_left', State.setTop_setTop, State.heap_setTop]
  intro acts
  simp [jvm, XF.here.top]
  exact a1
end ZMULTIW
end
section
/-! ===== rows that the printed blocks use besides ===== -/
theorem zT_lay {C : String} {T : u_T} {N : Nat} (ps : List Nat) (h : (List.range N).map (u_lay C T) = ps.filterMap (fun i => tables_1[i]?)) (g : ((List.range N).map (u_lay C T)).all goodWord = true) : ∀ w ∈ u_ws C T N, w ∈ zT := by
  intro w hw
  have hg := List.all_eq_true.mp g w hw
  have hw2 : w ∈ ps.filterMap (fun i => tables_1[i]?) := by rw [← h]; exact hw
  obtain ⟨i, -, hi⟩ := List.mem_filterMap.mp hw2
  exact zT_tab i hi hg
theorem zsw (x : Int32) (lo hi : Int) (h0 : 0 ≤ lo) : (x.toInt < lo ∨ hi < x.toInt) ∨ ∃ j : Nat, (j : Int) ≤ hi - lo ∧ x.toInt = lo + (j : Int) := by
  by_cases h1 : x.toInt < lo
  · exact Or.inl (Or.inl h1)
  · by_cases h2 : hi < x.toInt
    · exact Or.inl (Or.inr h2)
    · exact Or.inr ⟨(x.toInt - lo).toNat, by omega, by omega⟩
theorem zcas (j q : Nat) : j = q ∨ j ≠ q := by omega
section ZMORE
variable {G : zG} {X : zX} {cc : ByteArray} {nL : Nat} {own : String} {ret : Option FieldType} {nm : String} {M : zM} {n k pc : Nat} {lv : List (Nat × Value)} {st : List Value}
theorem z_topi {x : Int32} (K : ∀ y : Int32, y = x → zW G X nL M n k pc lv (.int y :: st)) : zW G X nL M n k pc lv (.int x :: st) := K x rfl
theorem z_topl {x : Int64} (K : ∀ y : Int64, y = x → zW G X nL M n k pc lv (.long y :: st)) : zW G X nL M n k pc lv (.long x :: st) := K x rfl
theorem zRm_of {rm R0 : Room} {maxL : Nat} (h : X.R = R0) (h1 : rm.frames + 1 ≤ R0.frames) (h2 : 8 + (maxL + 11) + rm.locals ≤ R0.locals) : zRm X rm maxL := by
  unfold zRm
  rw [h]
  exact ⟨h1, h2⟩
theorem z_have (K : n ≤ X.R.cells → k ≤ X.R.slots → zW G X nL M n k pc lv st) : zW G X nL M n k pc lv st := fun H locs ws ls h1 h2 h3 h4 h5 h6 h7 => K h6 h7 H locs ws ls h1 h2 h3 h4 h5 h6 h7
variable {index np maxL ci b : Nat} {y : MethodName} {cy : ByteArray} {ry : Option FieldType} {rm : Room} {As : List Value} {post : zM → Option Value → Prop}
theorem z_callV0 (O : zOK G X cc nL own ret nm) (L : zCV own index ci y cy maxL ry np) (hM : zC G y cy maxL ry rm M (.ref b :: As) post) (hk : M.1 b = ci + 1) (hn : As.length = np) (hR : zRm X rm maxL) (hst : (st.map fun v => v.category).sum ≤ 8) (hd : decode cc pc = .ok (.invokevirtual index, 3)) (hc : rm.cells = 0) (hs : rm.slots = 0) {st0 : List Value} (hs0 : st0 = As.reverse ++ .ref b :: st) (K : ∀ (M' : zM) (v : Option Value), post M' v → zW G X nL M' n k (pc + 3) lv (v.toList ++ st)) : zW G X nL M n k pc lv st0 := z_have fun h6 h7 => z_callV O L hM hk hn hR hst hd (by rw [hc]; exact h6) (by rw [hs]; exact h7) hs0 (fun M' v h => by rw [hc, hs]; exact K M' v h)
theorem z_callVk (O : zOK G X cc nL own ret nm) (L : zCV own index ci y cy maxL ry np) (hM : zC G y cy maxL ry rm M (.ref b :: As) post) (hk : M.1 b = ci + 1) (hn : As.length = np) (hR : zRm X rm maxL) (hst : (st.map fun v => v.category).sum ≤ 8) (hd : decode cc pc = .ok (.invokevirtual index, 3)) {mc ms : Nat} (hc : rm.cells = mc) (hs : rm.slots = ms) (g1 : n + mc ≤ X.R.cells) (g2 : k + ms ≤ X.R.slots) {st0 : List Value} (hs0 : st0 = As.reverse ++ .ref b :: st) (K : ∀ (M' : zM) (v : Option Value), post M' v → zW G X nL M' (n + mc) (k + ms) (pc + 3) lv (v.toList ++ st)) : zW G X nL M n k pc lv st0 := by
  subst hc
  subst hs
  exact z_callV O L hM hk hn hR hst hd g1 g2 hs0 K
theorem z_callS0 (O : zOK G X cc nL own ret nm) (L : zCS own index y cy maxL ry np) (hM : zC G y cy maxL ry rm M As post) (hn : As.length = np) (hR : zRm X rm maxL) (hst : (st.map fun v => v.category).sum ≤ 8) (hd : decode cc pc = .ok (.invokestatic index, 3)) (hc : rm.cells = 0) (hs : rm.slots = 0) {st0 : List Value} (hs0 : st0 = As.reverse ++ st) (K : ∀ (M' : zM) (v : Option Value), post M' v → zW G X nL M' n k (pc + 3) lv (v.toList ++ st)) : zW G X nL M n k pc lv st0 := z_have fun h6 h7 => z_callS O L hM hn hR hst hd (by rw [hc]; exact h6) (by rw [hs]; exact h7) hs0 (fun M' v h => by rw [hc, hs]; exact K M' v h)
theorem z_callSk (O : zOK G X cc nL own ret nm) (L : zCS own index y cy maxL ry np) (hM : zC G y cy maxL ry rm M As post) (hn : As.length = np) (hR : zRm X rm maxL) (hst : (st.map fun v => v.category).sum ≤ 8) (hd : decode cc pc = .ok (.invokestatic index, 3)) {mc ms : Nat} (hc : rm.cells = mc) (hs : rm.slots = ms) (g1 : n + mc ≤ X.R.cells) (g2 : k + ms ≤ X.R.slots) {st0 : List Value} (hs0 : st0 = As.reverse ++ st) (K : ∀ (M' : zM) (v : Option Value), post M' v → zW G X nL M' (n + mc) (k + ms) (pc + 3) lv (v.toList ++ st)) : zW G X nL M n k pc lv st0 := by
  subst hc
  subst hs
  exact z_callS O L hM hn hR hst hd g1 g2 hs0 K
theorem z_callSN0 (O : zOK G X cc nL own ret nm) (L : zCSN own index y cy maxL ry np) (hM : zC G y cy maxL ry rm M As post) (hn : As.length = np) (hR : zRm X rm maxL) (hst : (st.map fun v => v.category).sum ≤ 8) (hd : decode cc pc = .ok (.invokestatic index, 3)) (hc : rm.cells = 0) (hs : rm.slots = 0) {st0 : List Value} (hs0 : st0 = As.reverse ++ st) (K : ∀ (M' : zM) (v : Option Value), post M' v → zW G X nL M' n k (pc + 3) lv (v.toList ++ st)) : zW G X nL M n k pc lv st0 := z_have fun h6 h7 => z_callSN O L hM hn hR hst hd (by rw [hc]; exact h6) (by rw [hs]; exact h7) hs0 (fun M' v h => by rw [hc, hs]; exact K M' v h)
theorem z_callSNk (O : zOK G X cc nL own ret nm) (L : zCSN own index y cy maxL ry np) (hM : zC G y cy maxL ry rm M As post) (hn : As.length = np) (hR : zRm X rm maxL) (hst : (st.map fun v => v.category).sum ≤ 8) (hd : decode cc pc = .ok (.invokestatic index, 3)) {mc ms : Nat} (hc : rm.cells = mc) (hs : rm.slots = ms) (g1 : n + mc ≤ X.R.cells) (g2 : k + ms ≤ X.R.slots) {st0 : List Value} (hs0 : st0 = As.reverse ++ st) (K : ∀ (M' : zM) (v : Option Value), post M' v → zW G X nL M' (n + mc) (k + ms) (pc + 3) lv (v.toList ++ st)) : zW G X nL M n k pc lv st0 := by
  subst hc
  subst hs
  exact z_callSN O L hM hn hR hst hd g1 g2 hs0 K
theorem z_callI0 (O : zOK G X cc nL own ret nm) (L : zCI own index y cy maxL np) (hM : zC G y cy maxL none rm M (.ref b :: As) post) (hn : As.length = np) (hR : zRm X rm maxL) (hst : (st.map fun v => v.category).sum ≤ 8) (hd : decode cc pc = .ok (.invokespecial index, 3)) (hc : rm.cells = 0) (hs : rm.slots = 0) {st0 : List Value} (hs0 : st0 = As.reverse ++ .ref b :: st) (K : ∀ (M' : zM) (v : Option Value), post M' v → zW G X nL M' n k (pc + 3) lv (v.toList ++ st)) : zW G X nL M n k pc lv st0 := z_have fun h6 h7 => z_callI O L hM hn hR hst hd (by rw [hc]; exact h6) (by rw [hs]; exact h7) hs0 (fun M' v h => by rw [hc, hs]; exact K M' v h)
theorem z_callIk (O : zOK G X cc nL own ret nm) (L : zCI own index y cy maxL np) (hM : zC G y cy maxL none rm M (.ref b :: As) post) (hn : As.length = np) (hR : zRm X rm maxL) (hst : (st.map fun v => v.category).sum ≤ 8) (hd : decode cc pc = .ok (.invokespecial index, 3)) {mc ms : Nat} (hc : rm.cells = mc) (hs : rm.slots = ms) (g1 : n + mc ≤ X.R.cells) (g2 : k + ms ≤ X.R.slots) {st0 : List Value} (hs0 : st0 = As.reverse ++ .ref b :: st) (K : ∀ (M' : zM) (v : Option Value), post M' v → zW G X nL M' (n + mc) (k + ms) (pc + 3) lv (v.toList ++ st)) : zW G X nL M n k pc lv st0 := by
  subst hc
  subst hs
  exact z_callI O L hM hn hR hst hd g1 g2 hs0 K
theorem z_callIN0 (O : zOK G X cc nL own ret nm) (L : zCIN own index y cy maxL np) (hM : zC G y cy maxL none rm M (.ref b :: As) post) (hn : As.length = np) (hR : zRm X rm maxL) (hst : (st.map fun v => v.category).sum ≤ 8) (hd : decode cc pc = .ok (.invokespecial index, 3)) (hc : rm.cells = 0) (hs : rm.slots = 0) {st0 : List Value} (hs0 : st0 = As.reverse ++ .ref b :: st) (K : ∀ (M' : zM) (v : Option Value), post M' v → zW G X nL M' n k (pc + 3) lv (v.toList ++ st)) : zW G X nL M n k pc lv st0 := z_have fun h6 h7 => z_callIN O L hM hn hR hst hd (by rw [hc]; exact h6) (by rw [hs]; exact h7) hs0 (fun M' v h => by rw [hc, hs]; exact K M' v h)
theorem z_callINk (O : zOK G X cc nL own ret nm) (L : zCIN own index y cy maxL np) (hM : zC G y cy maxL none rm M (.ref b :: As) post) (hn : As.length = np) (hR : zRm X rm maxL) (hst : (st.map fun v => v.category).sum ≤ 8) (hd : decode cc pc = .ok (.invokespecial index, 3)) {mc ms : Nat} (hc : rm.cells = mc) (hs : rm.slots = ms) (g1 : n + mc ≤ X.R.cells) (g2 : k + ms ≤ X.R.slots) {st0 : List Value} (hs0 : st0 = As.reverse ++ .ref b :: st) (K : ∀ (M' : zM) (v : Option Value), post M' v → zW G X nL M' (n + mc) (k + ms) (pc + 3) lv (v.toList ++ st)) : zW G X nL M n k pc lv st0 := by
  subst hc
  subst hs
  exact z_callIN O L hM hn hR hst hd g1 g2 hs0 K
/-- int[N][K]: the row of rows at q, the rows behind it -/
def znn (M : zM) (q N K : Nat) : zM := (fun x => if x = q then 112 else if q < x ∧ x ≤ q + N then 100 else M.1 x, fun x => if x = q then N else if q < x ∧ x ≤ q + N then K else M.2.1 x, fun x j => if q ≤ x ∧ x ≤ q + N then 0 else M.2.2.1 x j, fun x j => if x = q then (if j < N then some (q + 1 + j) else none) else if q < x ∧ x ≤ q + N then none else M.2.2.2 x j)
theorem znn_out {cA : Nat → ClassId} {q N K x : Nat} (h : ¬ (q ≤ x ∧ x ≤ q + N)) : (znn M q N K).1 x = M.1 x ∧ zE' cA (znn M q N K) x = zE' cA M x := by
  have h1 : ¬ x = q := by omega
  have h2 : ¬ (q < x ∧ x ≤ q + N) := by omega
  simp only [znn, zE', h, h1, h2, if_false, and_self]
theorem z_multi (O : zOK G X cc nL own ret nm) {i0 i1 : Int32} {N K : Nat} (hw : Cond.classLink own index "[[I" ∈ zT) (hd : decode cc pc = .ok (.multianewarray index 2, 4)) (hn : ¬ i0 < 0) (hk : ¬ i1 < 0) (hN : i0.toNatClampNeg = N) (hK : i1.toNatClampNeg = K) (bN : N ≤ 100000000) (bK : K ≤ 100000000) {c1 c2 : Nat} (g1 : n + c1 ≤ X.R.cells) (g2 : k + c2 ≤ X.R.slots) (e1 : c1 = 1 + N) (e2 : c2 = N + N * K)
    (KK : ∀ q : Nat, (∀ j, j ≤ N → M.1 (q + j) = 0) → zW G X nL (znn M q N K) (n + c1) (k + c2) (pc + 4) lv (.ref q :: st)) : zW G X nL M n k pc lv (.int i1 :: .int i0 :: st) := by
  subst e1
  subst e2
  intro H locs ws ls h1 h2 h3 h4 h5 h6 h7
  have hV := O.2.2.2.2.2.2.1
  obtain ⟨kA, hA, hkA⟩ := hV.2.2.2
  have hfA : X.s.vm.findClass "[[I" = some (G.2.2 12) := (hV.1.2 12 (G.2.2 12, .array .int) rfl).2
  obtain ⟨-, kC, hC, cy, hkC⟩ := (hV.1.2 0 (G.2.2 0, .int) rfl).1 0 (fun _ => .int 0)
  refine zWmulti O.1 O.2.1 O.2.2.2.2.1 (O.2.2.2.2.2.1 _ hw) hA hkA hfA hC hkC hd hn hk hN hK bN bK g1 g2 (fun H' s1 s2 s3 s4 => ?_)
  have hlt : ∀ (j : Nat) (q : Nat × va_E), ws[j]? = some q → q.1 < H.size := fun j q hq => (h2 j q hq).lt
  have hfr : ∀ x, H.size ≤ x → M.1 x = 0 := fun x hx => by
    rcases Nat.eq_zero_or_pos (M.1 x) with h0 | h0
    · exact h0
    · obtain ⟨j, hj⟩ := h1.1 x (by omega)
      have := hlt j _ hj
      simp only at this
      omega
  have hin : ∀ x, M.1 x ≠ 0 → x < H.size := fun x hx => by
    rcases Nat.lt_or_ge x H.size with h | h
    · exact h
    · exact absurd (hfr x h) hx
  have key := KK H.size (fun j _ => hfr _ (by omega)) H' (locs ++ (List.range N).map fun j => (⟨H.size, j⟩ : Loc)) (ws ++ ((H.size, zE' G.2.2 (znn M H.size N K) H.size) :: (List.range N).map (fun j => (H.size + 1 + j, zE' G.2.2 (znn M H.size N K) (H.size + 1 + j))))) ls
  have hget : ∀ (j : Nat) (q : Nat × va_E), (ws ++ ((H.size, zE' G.2.2 (znn M H.size N K) H.size) :: (List.range N).map (fun j => (H.size + 1 + j, zE' G.2.2 (znn M H.size N K) (H.size + 1 + j)))))[j]? = some q → (j < ws.length ∧ ws[j]? = some q) ∨ (ws.length ≤ j ∧ j ≤ ws.length + N ∧ q.1 = H.size + (j - ws.length) ∧ q.2 = zE' G.2.2 (znn M H.size N K) q.1) := by
    intro j q hj
    by_cases hl : j < ws.length
    · rw [List.getElem?_append_left hl] at hj
      exact Or.inl ⟨hl, hj⟩
    · rw [List.getElem?_append_right (by omega)] at hj
      right
      cases hz : j - ws.length with
      | zero =>
        rw [hz] at hj
        cases hj
        exact ⟨by omega, by omega, by omega, rfl⟩
      | succ z =>
        rw [hz, List.getElem?_cons_succ, List.getElem?_map] at hj
        by_cases hzN : z < N
        · rw [List.getElem?_range hzN] at hj
          cases hj
          exact ⟨by omega, by omega, by show H.size + 1 + z = _; omega, rfl⟩
        · rw [List.getElem?_eq_none (by rw [List.length_range]; omega)] at hj
          cases hj
  have hrep : zRep G.2.2 (znn M H.size N K) (ws ++ ((H.size, zE' G.2.2 (znn M H.size N K) H.size) :: (List.range N).map (fun j => (H.size + 1 + j, zE' G.2.2 (znn M H.size N K) (H.size + 1 + j))))) := by
    refine ⟨fun x hx => ?_, fun j q hj => ?_⟩
    · by_cases hr : H.size ≤ x ∧ x ≤ H.size + N
      · refine ⟨ws.length + (x - H.size), ?_⟩
        rw [List.getElem?_append_right (by omega), show ws.length + (x - H.size) - ws.length = x - H.size by omega]
        cases hz : x - H.size with
        | zero => rw [show x = H.size by omega]; rfl
        | succ z =>
          rw [List.getElem?_cons_succ, List.getElem?_map, List.getElem?_range (by omega), show x = H.size + 1 + z by omega]
          rfl
      · obtain ⟨g1, g2⟩ := znn_out (M := M) (cA := G.2.2) (K := K) hr
        obtain ⟨j, hj⟩ := h1.1 x (by rw [← g1]; exact hx)
        exact ⟨j, by rw [List.getElem?_append_left (List.getElem?_eq_some_iff.mp hj).1, hj, g2]⟩
    · rcases hget j q hj with ⟨-, hj⟩ | ⟨a1, a2, a3, a4⟩
      · have := hlt j q hj
        obtain ⟨g1, g2⟩ := znn_out (M := M) (cA := G.2.2) (K := K) (x := q.1) (q := H.size) (N := N) (by omega)
        obtain ⟨g3, g4⟩ := h1.2 j q hj
        exact ⟨by rw [g1]; exact g3, by rw [g2]; exact g4⟩
      · refine ⟨?_, a4⟩
        by_cases hq : q.1 = H.size
        · simp [znn, hq]
        · have : H.size < q.1 ∧ q.1 ≤ H.size + N := by omega
          simp [znn, hq, this]
  rw [show n + 1 + N = n + (1 + N) by omega, show k + N + N * K = k + (N + N * K) by omega]
  refine key hrep ?_ ?_ ?_ h5 (by omega) (by omega)
  · intro j q hj
    rcases hget j q hj with ⟨-, hj⟩ | ⟨a1, a2, a3, a4⟩
    · exact (h2 j q hj).kept (s4 q.1 (hlt j q hj))
    · obtain ⟨qa, qe⟩ := q
      simp only at a3 a4
      subst a4
      by_cases hq : qa = H.size
      · subst hq
        rw [zE_ref (M := znn M H.size N K) (t := 10) (by simp [znn])]
        show H'[H.size]? = some (vp_cell _ _)
        rw [vp_cell_q, s2]
        simp [zo, znn]
      · have hr : H.size < qa ∧ qa ≤ H.size + N := by omega
        rw [zE_int (M := znn M H.size N K) (by simp [znn, hq, hr])]
        show H'[qa]? = some (vp_cell _ _)
        have := s3 (qa - H.size - 1) (by omega)
        rw [show H.size + 1 + (qa - H.size - 1) = qa by omega] at this
        rw [vp_cell_i, this]
        have hr2 : H.size ≤ qa := by omega
        simp [znn, hq, hr, hr2]
  · refine ⟨fun i j a b hi hj hab => ?_, fun j q hj => ?_⟩
    · rcases hget i a hi with ⟨-, hi⟩ | ⟨a1, a2, a3, -⟩ <;> rcases hget j b hj with ⟨-, hj⟩ | ⟨b1, b2, b3, -⟩
      · exact h3.1 i j a b hi hj hab
      · have := hlt i a hi; omega
      · have := hlt j b hj; omega
      · omega
    · rcases hget j q hj with ⟨-, hj⟩ | ⟨a1, a2, a3, -⟩
      · exact h3.2 j q hj
      · exact O.2.2.2.2.2.2.2.2.2 _ (by have := h4.1; omega)
  · refine ⟨by have := h4.1; omega, fun q g1 g2 => by rw [s4 q (by have := h4.1; omega)]; exact h4.2.1 q g1 g2, fun q hq => ?_⟩
    rcases List.mem_append.mp hq with h | h
    · exact h4.2.2 q h
    · obtain ⟨z, -, hz⟩ := List.mem_map.mp h
      rw [← hz]
      exact O.2.2.2.2.2.2.2.2.2 _ h4.1
/-- a row out of int[][] -/
theorem z_aldA (O : zOK G X cc nL own ret nm) {a b : Nat} {i : Int32} (hd : decode cc pc = .ok (.aaload, 1)) (hk : M.1 a = 112) (hi : vp_in i (M.2.1 a)) (hv : M.2.2.2 a i.toNatClampNeg = some b) (K : zW G X nL M n k (pc + 1) lv (.ref b :: st)) : zW G X nL M n k pc lv (.int i :: .ref a :: st) := by
  intro H locs ws ls h1 h2 h3 h4 h5 h6 h7
  obtain ⟨q, hq⟩ := h1.1 a (by rw [hk]; omega)
  rw [zE_ref (t := 10) hk] at hq
  have hlt : i.toNatClampNeg < M.2.1 a := Nat.not_le.mp fun q => hi (Or.inr q)
  exact W.aald (v := .ref b) (ty := .array .int) O.1 O.2.1 (h2 q _ hq) ((O.2.2.2.2.2.2.1.1.2 12 (G.2.2 12, .array .int) rfl).1 (M.2.1 a) (fun j => va_rf (M.2.2.2 a j))) rfl (fun q => by cases q) (by show ¬ (i < 0 ∨ (arrV _ _ _).slots.size ≤ _); rw [arrV_size]; exact hi) (by show (arrV _ _ _).slots[_]? = _; rw [arrV_read _ _ hlt, hv]; rfl) rfl rfl hd (K H locs ws ls h1 h2 h3 h4 h5 h6 h7)
end ZMORE
end
section
theorem dX9_init_0 : decode cX9_init 0 = .ok (.aload_n 0, 1) := by decide +kernel
theorem dX9_init_1 : decode cX9_init 1 = .ok (.invokespecial 1, 3) := by decide +kernel
theorem dX9_init_4 : decode cX9_init 4 = .ok (.return_, 1) := by decide +kernel
theorem dX4_init_0 : decode cX4_init 0 = .ok (.aload_n 0, 1) := by decide +kernel
theorem dX4_init_1 : decode cX4_init 1 = .ok (.invokespecial 3, 3) := by decide +kernel
theorem dX4_init_4 : decode cX4_init 4 = .ok (.aload_n 0, 1) := by decide +kernel
theorem dX4_init_5 : decode cX4_init 5 = .ok (.bipush 64, 2) := by decide +kernel
theorem dX4_init_7 : decode cX4_init 7 = .ok (.newarray .int, 2) := by decide +kernel
theorem dX4_init_9 : decode cX4_init 9 = .ok (.putfield 9, 3) := by decide +kernel
theorem dX4_init_12 : decode cX4_init 12 = .ok (.aload_n 0, 1) := by decide +kernel
theorem dX4_init_13 : decode cX4_init 13 = .ok (.bipush 64, 2) := by decide +kernel
theorem dX4_init_15 : decode cX4_init 15 = .ok (.newarray .int, 2) := by decide +kernel
theorem dX4_init_17 : decode cX4_init 17 = .ok (.putfield 15, 3) := by decide +kernel
theorem dX4_init_20 : decode cX4_init 20 = .ok (.aload_n 0, 1) := by decide +kernel
theorem dX4_init_21 : decode cX4_init 21 = .ok (.bipush 64, 2) := by decide +kernel
theorem dX4_init_23 : decode cX4_init 23 = .ok (.newarray .int, 2) := by decide +kernel
theorem dX4_init_25 : decode cX4_init 25 = .ok (.putfield 18, 3) := by decide +kernel
theorem dX4_init_28 : decode cX4_init 28 = .ok (.return_, 1) := by decide +kernel
theorem dX4_add_0 : decode cX4_add 0 = .ok (.iconst 0, 1) := by decide +kernel
theorem dX4_add_1 : decode cX4_add 1 = .ok (.istore 4, 2) := by decide +kernel
theorem dX4_add_3 : decode cX4_add 3 = .ok (.iload 4, 2) := by decide +kernel
theorem dX4_add_5 : decode cX4_add 5 = .ok (.aload_n 0, 1) := by decide +kernel
theorem dX4_add_6 : decode cX4_add 6 = .ok (.getfield 21, 3) := by decide +kernel
theorem dX4_add_9 : decode cX4_add 9 = .ok (.if_icmp .ge 41, 3) := by decide +kernel
theorem dX4_add_12 : decode cX4_add 12 = .ok (.aload_n 0, 1) := by decide +kernel
theorem dX4_add_13 : decode cX4_add 13 = .ok (.getfield 9, 3) := by decide +kernel
theorem dX4_add_16 : decode cX4_add 16 = .ok (.iload 4, 2) := by decide +kernel
theorem dX4_add_18 : decode cX4_add 18 = .ok (.iaload, 1) := by decide +kernel
theorem dX4_add_19 : decode cX4_add 19 = .ok (.iload_n 1, 1) := by decide +kernel
theorem dX4_add_20 : decode cX4_add 20 = .ok (.if_icmp .ne 24, 3) := by decide +kernel
theorem dX4_add_23 : decode cX4_add 23 = .ok (.aload_n 0, 1) := by decide +kernel
theorem dX4_add_24 : decode cX4_add 24 = .ok (.getfield 15, 3) := by decide +kernel
theorem dX4_add_27 : decode cX4_add 27 = .ok (.iload 4, 2) := by decide +kernel
theorem dX4_add_29 : decode cX4_add 29 = .ok (.iaload, 1) := by decide +kernel
theorem dX4_add_30 : decode cX4_add 30 = .ok (.iload_n 2, 1) := by decide +kernel
theorem dX4_add_31 : decode cX4_add 31 = .ok (.if_icmp .ne 13, 3) := by decide +kernel
theorem dX4_add_34 : decode cX4_add 34 = .ok (.aload_n 0, 1) := by decide +kernel
theorem dX4_add_35 : decode cX4_add 35 = .ok (.getfield 18, 3) := by decide +kernel
theorem dX4_add_38 : decode cX4_add 38 = .ok (.iload 4, 2) := by decide +kernel
theorem dX4_add_40 : decode cX4_add 40 = .ok (.iload_n 3, 1) := by decide +kernel
theorem dX4_add_41 : decode cX4_add 41 = .ok (.iastore, 1) := by decide +kernel
theorem dX4_add_42 : decode cX4_add 42 = .ok (.iconst 1, 1) := by decide +kernel
theorem dX4_add_43 : decode cX4_add 43 = .ok (.ireturn, 1) := by decide +kernel
theorem dX4_add_44 : decode cX4_add 44 = .ok (.iinc 4 1, 3) := by decide +kernel
theorem dX4_add_47 : decode cX4_add 47 = .ok (.goto (-44), 3) := by decide +kernel
theorem dX4_add_50 : decode cX4_add 50 = .ok (.aload_n 0, 1) := by decide +kernel
theorem dX4_add_51 : decode cX4_add 51 = .ok (.getfield 21, 3) := by decide +kernel
theorem dX4_add_54 : decode cX4_add 54 = .ok (.bipush 64, 2) := by decide +kernel
theorem dX4_add_56 : decode cX4_add 56 = .ok (.if_icmp .lt 5, 3) := by decide +kernel
theorem dX4_add_59 : decode cX4_add 59 = .ok (.iconst 0, 1) := by decide +kernel
theorem dX4_add_60 : decode cX4_add 60 = .ok (.ireturn, 1) := by decide +kernel
theorem dX4_add_61 : decode cX4_add 61 = .ok (.aload_n 0, 1) := by decide +kernel
theorem dX4_add_62 : decode cX4_add 62 = .ok (.getfield 9, 3) := by decide +kernel
theorem dX4_add_65 : decode cX4_add 65 = .ok (.aload_n 0, 1) := by decide +kernel
theorem dX4_add_66 : decode cX4_add 66 = .ok (.getfield 21, 3) := by decide +kernel
theorem dX4_add_69 : decode cX4_add 69 = .ok (.iload_n 1, 1) := by decide +kernel
theorem dX4_add_70 : decode cX4_add 70 = .ok (.iastore, 1) := by decide +kernel
theorem dX4_add_71 : decode cX4_add 71 = .ok (.aload_n 0, 1) := by decide +kernel
theorem dX4_add_72 : decode cX4_add 72 = .ok (.getfield 15, 3) := by decide +kernel
theorem dX4_add_75 : decode cX4_add 75 = .ok (.aload_n 0, 1) := by decide +kernel
theorem dX4_add_76 : decode cX4_add 76 = .ok (.getfield 21, 3) := by decide +kernel
theorem dX4_add_79 : decode cX4_add 79 = .ok (.iload_n 2, 1) := by decide +kernel
theorem dX4_add_80 : decode cX4_add 80 = .ok (.iastore, 1) := by decide +kernel
theorem dX4_add_81 : decode cX4_add 81 = .ok (.aload_n 0, 1) := by decide +kernel
theorem dX4_add_82 : decode cX4_add 82 = .ok (.getfield 18, 3) := by decide +kernel
theorem dX4_add_85 : decode cX4_add 85 = .ok (.aload_n 0, 1) := by decide +kernel
theorem dX4_add_86 : decode cX4_add 86 = .ok (.getfield 21, 3) := by decide +kernel
theorem dX4_add_89 : decode cX4_add 89 = .ok (.iload_n 3, 1) := by decide +kernel
theorem dX4_add_90 : decode cX4_add 90 = .ok (.iastore, 1) := by decide +kernel
theorem dX4_add_91 : decode cX4_add 91 = .ok (.aload_n 0, 1) := by decide +kernel
theorem dX4_add_92 : decode cX4_add 92 = .ok (.dup, 1) := by decide +kernel
theorem dX4_add_93 : decode cX4_add 93 = .ok (.getfield 21, 3) := by decide +kernel
theorem dX4_add_96 : decode cX4_add 96 = .ok (.iconst 1, 1) := by decide +kernel
theorem dX4_add_97 : decode cX4_add 97 = .ok (.iadd, 1) := by decide +kernel
theorem dX4_add_98 : decode cX4_add 98 = .ok (.putfield 21, 3) := by decide +kernel
theorem dX4_add_101 : decode cX4_add 101 = .ok (.iconst 1, 1) := by decide +kernel
theorem dX4_add_102 : decode cX4_add 102 = .ok (.ireturn, 1) := by decide +kernel
theorem dX10_init_0 : decode cX10_init 0 = .ok (.aload_n 0, 1) := by decide +kernel
theorem dX10_init_1 : decode cX10_init 1 = .ok (.invokespecial 3, 3) := by decide +kernel
theorem dX10_init_4 : decode cX10_init 4 = .ok (.aload_n 0, 1) := by decide +kernel
theorem dX10_init_5 : decode cX10_init 5 = .ok (.bipush 23, 2) := by decide +kernel
theorem dX10_init_7 : decode cX10_init 7 = .ok (.newarray .int, 2) := by decide +kernel
theorem dX10_init_9 : decode cX10_init 9 = .ok (.putfield 9, 3) := by decide +kernel
theorem dX10_init_12 : decode cX10_init 12 = .ok (.return_, 1) := by decide +kernel
theorem dX7_init_0 : decode cX7_init 0 = .ok (.aload_n 0, 1) := by decide +kernel
theorem dX7_init_1 : decode cX7_init 1 = .ok (.invokespecial 3, 3) := by decide +kernel
theorem dX7_init_4 : decode cX7_init 4 = .ok (.aload_n 0, 1) := by decide +kernel
theorem dX7_init_5 : decode cX7_init 5 = .ok (.aload_n 1, 1) := by decide +kernel
theorem dX7_init_6 : decode cX7_init 6 = .ok (.putfield 9, 3) := by decide +kernel
theorem dX7_init_9 : decode cX7_init 9 = .ok (.aload_n 0, 1) := by decide +kernel
theorem dX7_init_10 : decode cX7_init 10 = .ok (.bipush 8, 2) := by decide +kernel
theorem dX7_init_12 : decode cX7_init 12 = .ok (.anewarray 15, 3) := by decide +kernel
theorem dX7_init_15 : decode cX7_init 15 = .ok (.putfield 17, 3) := by decide +kernel
theorem dX7_init_18 : decode cX7_init 18 = .ok (.iconst 0, 1) := by decide +kernel
theorem dX7_init_19 : decode cX7_init 19 = .ok (.istore_n 2, 1) := by decide +kernel
theorem dX7_init_20 : decode cX7_init 20 = .ok (.iload_n 2, 1) := by decide +kernel
theorem dX7_init_21 : decode cX7_init 21 = .ok (.bipush 8, 2) := by decide +kernel
theorem dX7_init_23 : decode cX7_init 23 = .ok (.if_icmp .ge 22, 3) := by decide +kernel
theorem dX7_init_26 : decode cX7_init 26 = .ok (.aload_n 0, 1) := by decide +kernel
theorem dX7_init_27 : decode cX7_init 27 = .ok (.getfield 17, 3) := by decide +kernel
theorem dX7_init_30 : decode cX7_init 30 = .ok (.iload_n 2, 1) := by decide +kernel
theorem dX7_init_31 : decode cX7_init 31 = .ok (.new 15, 3) := by decide +kernel
theorem dX7_init_34 : decode cX7_init 34 = .ok (.dup, 1) := by decide +kernel
theorem dX7_init_35 : decode cX7_init 35 = .ok (.invokespecial 21, 3) := by decide +kernel
theorem dX7_init_38 : decode cX7_init 38 = .ok (.aastore, 1) := by decide +kernel
theorem dX7_init_39 : decode cX7_init 39 = .ok (.iinc 2 1, 3) := by decide +kernel
theorem dX7_init_42 : decode cX7_init 42 = .ok (.goto (-22), 3) := by decide +kernel
theorem dX7_init_45 : decode cX7_init 45 = .ok (.return_, 1) := by decide +kernel
theorem dX5_init_0 : decode cX5_init 0 = .ok (.aload_n 0, 1) := by decide +kernel
theorem dX5_init_1 : decode cX5_init 1 = .ok (.invokespecial 3, 3) := by decide +kernel
theorem dX5_init_4 : decode cX5_init 4 = .ok (.aload_n 0, 1) := by decide +kernel
theorem dX5_init_5 : decode cX5_init 5 = .ok (.iload_n 1, 1) := by decide +kernel
theorem dX5_init_6 : decode cX5_init 6 = .ok (.putfield 9, 3) := by decide +kernel
theorem dX5_init_9 : decode cX5_init 9 = .ok (.aload_n 0, 1) := by decide +kernel
theorem dX5_init_10 : decode cX5_init 10 = .ok (.iload_n 2, 1) := by decide +kernel
theorem dX5_init_11 : decode cX5_init 11 = .ok (.putfield 15, 3) := by decide +kernel
theorem dX5_init_14 : decode cX5_init 14 = .ok (.aload_n 0, 1) := by decide +kernel
theorem dX5_init_15 : decode cX5_init 15 = .ok (.new 18, 3) := by decide +kernel
theorem dX5_init_18 : decode cX5_init 18 = .ok (.dup, 1) := by decide +kernel
theorem dX5_init_19 : decode cX5_init 19 = .ok (.aload_n 3, 1) := by decide +kernel
theorem dX5_init_20 : decode cX5_init 20 = .ok (.invokespecial 20, 3) := by decide +kernel
theorem dX5_init_23 : decode cX5_init 23 = .ok (.putfield 23, 3) := by decide +kernel
theorem dX5_init_26 : decode cX5_init 26 = .ok (.aload_n 0, 1) := by decide +kernel
theorem dX5_init_27 : decode cX5_init 27 = .ok (.bipush 29, 2) := by decide +kernel
theorem dX5_init_29 : decode cX5_init 29 = .ok (.anewarray 27, 3) := by decide +kernel
theorem dX5_init_32 : decode cX5_init 32 = .ok (.putfield 29, 3) := by decide +kernel
theorem dX5_init_35 : decode cX5_init 35 = .ok (.return_, 1) := by decide +kernel
theorem dX11_init_0 : decode cX11_init 0 = .ok (.aload_n 0, 1) := by decide +kernel
theorem dX11_init_1 : decode cX11_init 1 = .ok (.invokespecial 1, 3) := by decide +kernel
theorem dX11_init_4 : decode cX11_init 4 = .ok (.aload_n 0, 1) := by decide +kernel
theorem dX11_init_5 : decode cX11_init 5 = .ok (.new 7, 3) := by decide +kernel
theorem dX11_init_8 : decode cX11_init 8 = .ok (.dup, 1) := by decide +kernel
theorem dX11_init_9 : decode cX11_init 9 = .ok (.invokespecial 9, 3) := by decide +kernel
theorem dX11_init_12 : decode cX11_init 12 = .ok (.putfield 10, 3) := by decide +kernel
theorem dX11_init_15 : decode cX11_init 15 = .ok (.aload_n 0, 1) := by decide +kernel
theorem dX11_init_16 : decode cX11_init 16 = .ok (.bipush 6, 2) := by decide +kernel
theorem dX11_init_18 : decode cX11_init 18 = .ok (.anewarray 16, 3) := by decide +kernel
theorem dX11_init_21 : decode cX11_init 21 = .ok (.putfield 18, 3) := by decide +kernel
theorem dX11_init_24 : decode cX11_init 24 = .ok (.aload_n 0, 1) := by decide +kernel
theorem dX11_init_25 : decode cX11_init 25 = .ok (.bipush 24, 2) := by decide +kernel
theorem dX11_init_27 : decode cX11_init 27 = .ok (.anewarray 22, 3) := by decide +kernel
theorem dX11_init_30 : decode cX11_init 30 = .ok (.putfield 24, 3) := by decide +kernel
theorem dX11_init_33 : decode cX11_init 33 = .ok (.aload_n 0, 1) := by decide +kernel
theorem dX11_init_34 : decode cX11_init 34 = .ok (.iconst 5, 1) := by decide +kernel
theorem dX11_init_35 : decode cX11_init 35 = .ok (.anewarray 28, 3) := by decide +kernel
theorem dX11_init_38 : decode cX11_init 38 = .ok (.putfield 30, 3) := by decide +kernel
theorem dX11_init_41 : decode cX11_init 41 = .ok (.aload_n 0, 1) := by decide +kernel
theorem dX11_init_42 : decode cX11_init 42 = .ok (.bipush 10, 2) := by decide +kernel
theorem dX11_init_44 : decode cX11_init 44 = .ok (.anewarray 34, 3) := by decide +kernel
theorem dX11_init_47 : decode cX11_init 47 = .ok (.putfield 36, 3) := by decide +kernel
theorem dX11_init_50 : decode cX11_init 50 = .ok (.aload_n 0, 1) := by decide +kernel
theorem dX11_init_51 : decode cX11_init 51 = .ok (.new 40, 3) := by decide +kernel
theorem dX11_init_54 : decode cX11_init 54 = .ok (.dup, 1) := by decide +kernel
theorem dX11_init_55 : decode cX11_init 55 = .ok (.invokespecial 42, 3) := by decide +kernel
theorem dX11_init_58 : decode cX11_init 58 = .ok (.putfield 43, 3) := by decide +kernel
theorem dX11_init_61 : decode cX11_init 61 = .ok (.aload_n 0, 1) := by decide +kernel
theorem dX11_init_62 : decode cX11_init 62 = .ok (.bipush 60, 2) := by decide +kernel
theorem dX11_init_64 : decode cX11_init 64 = .ok (.newarray .int, 2) := by decide +kernel
theorem dX11_init_66 : decode cX11_init 66 = .ok (.putfield 47, 3) := by decide +kernel
theorem dX11_init_69 : decode cX11_init 69 = .ok (.aload_n 0, 1) := by decide +kernel
theorem dX11_init_70 : decode cX11_init 70 = .ok (.new 51, 3) := by decide +kernel
theorem dX11_init_73 : decode cX11_init 73 = .ok (.dup, 1) := by decide +kernel
theorem dX11_init_74 : decode cX11_init 74 = .ok (.invokespecial 53, 3) := by decide +kernel
theorem dX11_init_77 : decode cX11_init 77 = .ok (.putfield 54, 3) := by decide +kernel
theorem dX11_init_80 : decode cX11_init 80 = .ok (.aload_n 0, 1) := by decide +kernel
theorem dX11_init_81 : decode cX11_init 81 = .ok (.new 51, 3) := by decide +kernel
theorem dX11_init_84 : decode cX11_init 84 = .ok (.dup, 1) := by decide +kernel
theorem dX11_init_85 : decode cX11_init 85 = .ok (.invokespecial 53, 3) := by decide +kernel
theorem dX11_init_88 : decode cX11_init 88 = .ok (.putfield 58, 3) := by decide +kernel
theorem dX11_init_91 : decode cX11_init 91 = .ok (.aload_n 0, 1) := by decide +kernel
theorem dX11_init_92 : decode cX11_init 92 = .ok (.iconst (-1), 1) := by decide +kernel
theorem dX11_init_93 : decode cX11_init 93 = .ok (.putfield 61, 3) := by decide +kernel
theorem dX11_init_96 : decode cX11_init 96 = .ok (.aload_n 0, 1) := by decide +kernel
theorem dX11_init_97 : decode cX11_init 97 = .ok (.iconst 0, 1) := by decide +kernel
theorem dX11_init_98 : decode cX11_init 98 = .ok (.putfield 65, 3) := by decide +kernel
theorem dX11_init_101 : decode cX11_init 101 = .ok (.return_, 1) := by decide +kernel
theorem dX11_isWithin_0 : decode cX11_isWithin 0 = .ok (.iload_n 0, 1) := by decide +kernel
theorem dX11_isWithin_1 : decode cX11_isWithin 1 = .ok (.iload_n 1, 1) := by decide +kernel
theorem dX11_isWithin_2 : decode cX11_isWithin 2 = .ok (.if_icmp .lt 12, 3) := by decide +kernel
theorem dX11_isWithin_5 : decode cX11_isWithin 5 = .ok (.iload_n 0, 1) := by decide +kernel
theorem dX11_isWithin_6 : decode cX11_isWithin 6 = .ok (.iload_n 2, 1) := by decide +kernel
theorem dX11_isWithin_7 : decode cX11_isWithin 7 = .ok (.if_icmp .gt 7, 3) := by decide +kernel
theorem dX11_isWithin_10 : decode cX11_isWithin 10 = .ok (.iconst 1, 1) := by decide +kernel
theorem dX11_isWithin_11 : decode cX11_isWithin 11 = .ok (.goto 4, 3) := by decide +kernel
theorem dX11_isWithin_14 : decode cX11_isWithin 14 = .ok (.iconst 0, 1) := by decide +kernel
theorem dX11_isWithin_15 : decode cX11_isWithin 15 = .ok (.ireturn, 1) := by decide +kernel
theorem dX11_line_0 : decode cX11_line 0 = .ok (.aload_n 0, 1) := by decide +kernel
theorem dX11_line_1 : decode cX11_line 1 = .ok (.getfield 68, 3) := by decide +kernel
theorem dX11_line_4 : decode cX11_line 4 = .ok (.bipush 6, 2) := by decide +kernel
theorem dX11_line_6 : decode cX11_line 6 = .ok (.if_icmp .ge 23, 3) := by decide +kernel
theorem dX11_line_9 : decode cX11_line 9 = .ok (.iload_n 1, 1) := by decide +kernel
theorem dX11_line_10 : decode cX11_line 10 = .ok (.iconst 0, 1) := by decide +kernel
theorem dX11_line_11 : decode cX11_line 11 = .ok (.sipush 255, 3) := by decide +kernel
theorem dX11_line_14 : decode cX11_line 14 = .ok (.invokestatic 71, 3) := by decide +kernel
theorem dX11_line_17 : decode cX11_line 17 = .ok (.ifCond .eq 12, 3) := by decide +kernel
theorem dX11_line_20 : decode cX11_line 20 = .ok (.aload_n 0, 1) := by decide +kernel
theorem dX11_line_21 : decode cX11_line 21 = .ok (.iload_n 1, 1) := by decide +kernel
theorem dX11_line_22 : decode cX11_line 22 = .ok (.invokevirtual 75, 3) := by decide +kernel
theorem dX11_line_25 : decode cX11_line 25 = .ok (.iconst (-1), 1) := by decide +kernel
theorem dX11_line_26 : decode cX11_line 26 = .ok (.if_icmp .eq 5, 3) := by decide +kernel
theorem dX11_line_29 : decode cX11_line 29 = .ok (.iconst (-1), 1) := by decide +kernel
theorem dX11_line_30 : decode cX11_line 30 = .ok (.ireturn, 1) := by decide +kernel
theorem dX11_line_31 : decode cX11_line 31 = .ok (.aload_n 0, 1) := by decide +kernel
theorem dX11_line_32 : decode cX11_line 32 = .ok (.getfield 18, 3) := by decide +kernel
theorem dX11_line_35 : decode cX11_line 35 = .ok (.aload_n 0, 1) := by decide +kernel
theorem dX11_line_36 : decode cX11_line 36 = .ok (.getfield 68, 3) := by decide +kernel
theorem dX11_line_39 : decode cX11_line 39 = .ok (.new 16, 3) := by decide +kernel
theorem dX11_line_42 : decode cX11_line 42 = .ok (.dup, 1) := by decide +kernel
theorem dX11_line_43 : decode cX11_line 43 = .ok (.iload_n 1, 1) := by decide +kernel
theorem dX11_line_44 : decode cX11_line 44 = .ok (.iconst 1, 1) := by decide +kernel
theorem dX11_line_45 : decode cX11_line 45 = .ok (.aload_n 0, 1) := by decide +kernel
theorem dX11_line_46 : decode cX11_line 46 = .ok (.getfield 68, 3) := by decide +kernel
theorem dX11_line_49 : decode cX11_line 49 = .ok (.ishl, 1) := by decide +kernel
theorem dX11_line_50 : decode cX11_line 50 = .ok (.aload_n 0, 1) := by decide +kernel
theorem dX11_line_51 : decode cX11_line 51 = .ok (.getfield 10, 3) := by decide +kernel
theorem dX11_line_54 : decode cX11_line 54 = .ok (.invokespecial 79, 3) := by decide +kernel
theorem dX11_line_57 : decode cX11_line 57 = .ok (.aastore, 1) := by decide +kernel
theorem dX11_line_58 : decode cX11_line 58 = .ok (.aload_n 0, 1) := by decide +kernel
theorem dX11_line_59 : decode cX11_line 59 = .ok (.dup, 1) := by decide +kernel
theorem dX11_line_60 : decode cX11_line 60 = .ok (.getfield 68, 3) := by decide +kernel
theorem dX11_line_63 : decode cX11_line 63 = .ok (.iconst 1, 1) := by decide +kernel
theorem dX11_line_64 : decode cX11_line 64 = .ok (.iadd, 1) := by decide +kernel
theorem dX11_line_65 : decode cX11_line 65 = .ok (.putfield 68, 3) := by decide +kernel
theorem dX11_line_68 : decode cX11_line 68 = .ok (.aload_n 0, 1) := by decide +kernel
theorem dX11_line_69 : decode cX11_line 69 = .ok (.getfield 68, 3) := by decide +kernel
theorem dX11_line_72 : decode cX11_line 72 = .ok (.iconst 1, 1) := by decide +kernel
theorem dX11_line_73 : decode cX11_line 73 = .ok (.isub, 1) := by decide +kernel
theorem dX11_line_74 : decode cX11_line 74 = .ok (.ireturn, 1) := by decide +kernel
theorem dX11_lineOfNumber_0 : decode cX11_lineOfNumber 0 = .ok (.iconst 0, 1) := by decide +kernel
theorem dX11_lineOfNumber_1 : decode cX11_lineOfNumber 1 = .ok (.istore_n 2, 1) := by decide +kernel
theorem dX11_lineOfNumber_2 : decode cX11_lineOfNumber 2 = .ok (.iload_n 2, 1) := by decide +kernel
theorem dX11_lineOfNumber_3 : decode cX11_lineOfNumber 3 = .ok (.aload_n 0, 1) := by decide +kernel
theorem dX11_lineOfNumber_4 : decode cX11_lineOfNumber 4 = .ok (.getfield 68, 3) := by decide +kernel
theorem dX11_lineOfNumber_7 : decode cX11_lineOfNumber 7 = .ok (.if_icmp .ge 24, 3) := by decide +kernel
theorem dX11_lineOfNumber_10 : decode cX11_lineOfNumber 10 = .ok (.aload_n 0, 1) := by decide +kernel
theorem dX11_lineOfNumber_11 : decode cX11_lineOfNumber 11 = .ok (.getfield 18, 3) := by decide +kernel
theorem dX11_lineOfNumber_14 : decode cX11_lineOfNumber 14 = .ok (.iload_n 2, 1) := by decide +kernel
theorem dX11_lineOfNumber_15 : decode cX11_lineOfNumber 15 = .ok (.aaload, 1) := by decide +kernel
theorem dX11_lineOfNumber_16 : decode cX11_lineOfNumber 16 = .ok (.getfield 89, 3) := by decide +kernel
theorem dX11_lineOfNumber_19 : decode cX11_lineOfNumber 19 = .ok (.iload_n 1, 1) := by decide +kernel
theorem dX11_lineOfNumber_20 : decode cX11_lineOfNumber 20 = .ok (.if_icmp .ne 5, 3) := by decide +kernel
theorem dX11_lineOfNumber_23 : decode cX11_lineOfNumber 23 = .ok (.iload_n 2, 1) := by decide +kernel
theorem dX11_lineOfNumber_24 : decode cX11_lineOfNumber 24 = .ok (.ireturn, 1) := by decide +kernel
theorem dX11_lineOfNumber_25 : decode cX11_lineOfNumber 25 = .ok (.iinc 2 1, 3) := by decide +kernel
theorem dX11_lineOfNumber_28 : decode cX11_lineOfNumber 28 = .ok (.goto (-26), 3) := by decide +kernel
theorem dX11_lineOfNumber_31 : decode cX11_lineOfNumber 31 = .ok (.iconst (-1), 1) := by decide +kernel
theorem dX11_lineOfNumber_32 : decode cX11_lineOfNumber 32 = .ok (.ireturn, 1) := by decide +kernel
theorem dX11_lineAt_0 : decode cX11_lineAt 0 = .ok (.iload_n 1, 1) := by decide +kernel
theorem dX11_lineAt_1 : decode cX11_lineAt 1 = .ok (.iconst 0, 1) := by decide +kernel
theorem dX11_lineAt_2 : decode cX11_lineAt 2 = .ok (.aload_n 0, 1) := by decide +kernel
theorem dX11_lineAt_3 : decode cX11_lineAt 3 = .ok (.getfield 68, 3) := by decide +kernel
theorem dX11_lineAt_6 : decode cX11_lineAt 6 = .ok (.iconst 1, 1) := by decide +kernel
theorem dX11_lineAt_7 : decode cX11_lineAt 7 = .ok (.isub, 1) := by decide +kernel
theorem dX11_lineAt_8 : decode cX11_lineAt 8 = .ok (.invokestatic 71, 3) := by decide +kernel
theorem dX11_lineAt_11 : decode cX11_lineAt 11 = .ok (.ifCond .eq 12, 3) := by decide +kernel
theorem dX11_lineAt_14 : decode cX11_lineAt 14 = .ok (.aload_n 0, 1) := by decide +kernel
theorem dX11_lineAt_15 : decode cX11_lineAt 15 = .ok (.getfield 18, 3) := by decide +kernel
theorem dX11_lineAt_18 : decode cX11_lineAt 18 = .ok (.iload_n 1, 1) := by decide +kernel
theorem dX11_lineAt_19 : decode cX11_lineAt 19 = .ok (.aaload, 1) := by decide +kernel
theorem dX11_lineAt_20 : decode cX11_lineAt 20 = .ok (.goto 4, 3) := by decide +kernel
theorem dX11_lineAt_23 : decode cX11_lineAt 23 = .ok (.aconst_null, 1) := by decide +kernel
theorem dX11_lineAt_24 : decode cX11_lineAt 24 = .ok (.areturn, 1) := by decide +kernel
theorem dX11_device_0 : decode cX11_device 0 = .ok (.aload_n 0, 1) := by decide +kernel
theorem dX11_device_1 : decode cX11_device 1 = .ok (.iload_n 1, 1) := by decide +kernel
theorem dX11_device_2 : decode cX11_device 2 = .ok (.invokevirtual 82, 3) := by decide +kernel
theorem dX11_device_5 : decode cX11_device 5 = .ok (.astore_n 3, 1) := by decide +kernel
theorem dX11_device_6 : decode cX11_device 6 = .ok (.aload_n 0, 1) := by decide +kernel
theorem dX11_device_7 : decode cX11_device 7 = .ok (.getfield 86, 3) := by decide +kernel
theorem dX11_device_10 : decode cX11_device 10 = .ok (.bipush 24, 2) := by decide +kernel
theorem dX11_device_12 : decode cX11_device 12 = .ok (.if_icmp .ge 18, 3) := by decide +kernel
theorem dX11_device_15 : decode cX11_device 15 = .ok (.aload_n 3, 1) := by decide +kernel
theorem dX11_device_16 : decode cX11_device 16 = .ok (.ifnull 14, 3) := by decide +kernel
theorem dX11_device_19 : decode cX11_device 19 = .ok (.iload_n 2, 1) := by decide +kernel
theorem dX11_device_20 : decode cX11_device 20 = .ok (.iconst 1, 1) := by decide +kernel
theorem dX11_device_21 : decode cX11_device 21 = .ok (.sipush 255, 3) := by decide +kernel
theorem dX11_device_24 : decode cX11_device 24 = .ok (.invokestatic 71, 3) := by decide +kernel
theorem dX11_device_27 : decode cX11_device 27 = .ok (.ifCond .ne 5, 3) := by decide +kernel
theorem dX11_device_30 : decode cX11_device 30 = .ok (.iconst (-1), 1) := by decide +kernel
theorem dX11_device_31 : decode cX11_device 31 = .ok (.ireturn, 1) := by decide +kernel
theorem dX11_device_32 : decode cX11_device 32 = .ok (.sipush 256, 3) := by decide +kernel
theorem dX11_device_35 : decode cX11_device 35 = .ok (.aload_n 3, 1) := by decide +kernel
theorem dX11_device_36 : decode cX11_device 36 = .ok (.getfield 89, 3) := by decide +kernel
theorem dX11_device_39 : decode cX11_device 39 = .ok (.imul, 1) := by decide +kernel
theorem dX11_device_40 : decode cX11_device 40 = .ok (.iload_n 2, 1) := by decide +kernel
theorem dX11_device_41 : decode cX11_device 41 = .ok (.iadd, 1) := by decide +kernel
theorem dX11_device_42 : decode cX11_device 42 = .ok (.istore 4, 2) := by decide +kernel
theorem dX11_device_44 : decode cX11_device 44 = .ok (.aload_n 0, 1) := by decide +kernel
theorem dX11_device_45 : decode cX11_device 45 = .ok (.iload 4, 2) := by decide +kernel
theorem dX11_device_47 : decode cX11_device 47 = .ok (.invokevirtual 92, 3) := by decide +kernel
theorem dX11_device_50 : decode cX11_device 50 = .ok (.ifCond .eq 5, 3) := by decide +kernel
theorem dX11_device_53 : decode cX11_device 53 = .ok (.iconst (-1), 1) := by decide +kernel
theorem dX11_device_54 : decode cX11_device 54 = .ok (.ireturn, 1) := by decide +kernel
theorem dX11_device_55 : decode cX11_device 55 = .ok (.new 96, 3) := by decide +kernel
theorem dX11_device_58 : decode cX11_device 58 = .ok (.dup, 1) := by decide +kernel
theorem dX11_device_59 : decode cX11_device 59 = .ok (.aload_n 0, 1) := by decide +kernel
theorem dX11_device_60 : decode cX11_device 60 = .ok (.getfield 10, 3) := by decide +kernel
theorem dX11_device_63 : decode cX11_device 63 = .ok (.invokespecial 98, 3) := by decide +kernel
theorem dX11_device_66 : decode cX11_device 66 = .ok (.astore 5, 2) := by decide +kernel
theorem dX11_device_68 : decode cX11_device 68 = .ok (.new 51, 3) := by decide +kernel
theorem dX11_device_71 : decode cX11_device 71 = .ok (.dup, 1) := by decide +kernel
theorem dX11_device_72 : decode cX11_device 72 = .ok (.invokespecial 53, 3) := by decide +kernel
theorem dX11_device_75 : decode cX11_device 75 = .ok (.astore 6, 2) := by decide +kernel
theorem dX11_device_77 : decode cX11_device 77 = .ok (.new 22, 3) := by decide +kernel
theorem dX11_device_80 : decode cX11_device 80 = .ok (.dup, 1) := by decide +kernel
theorem dX11_device_81 : decode cX11_device 81 = .ok (.iload 4, 2) := by decide +kernel
theorem dX11_device_83 : decode cX11_device 83 = .ok (.aload 5, 2) := by decide +kernel
theorem dX11_device_85 : decode cX11_device 85 = .ok (.aload 6, 2) := by decide +kernel
theorem dX11_device_87 : decode cX11_device 87 = .ok (.new 101, 3) := by decide +kernel
theorem dX11_device_90 : decode cX11_device 90 = .ok (.dup, 1) := by decide +kernel
theorem dX11_device_91 : decode cX11_device 91 = .ok (.iload 4, 2) := by decide +kernel
theorem dX11_device_93 : decode cX11_device 93 = .ok (.aload 5, 2) := by decide +kernel
theorem dX11_device_95 : decode cX11_device 95 = .ok (.aload 6, 2) := by decide +kernel
theorem dX11_device_97 : decode cX11_device 97 = .ok (.invokespecial 103, 3) := by decide +kernel
theorem dX11_device_100 : decode cX11_device 100 = .ok (.invokespecial 106, 3) := by decide +kernel
theorem dX11_device_103 : decode cX11_device 103 = .ok (.astore 7, 2) := by decide +kernel
theorem dX11_device_105 : decode cX11_device 105 = .ok (.aload_n 3, 1) := by decide +kernel
theorem dX11_device_106 : decode cX11_device 106 = .ok (.aload 7, 2) := by decide +kernel
theorem dX11_device_108 : decode cX11_device 108 = .ok (.invokevirtual 109, 3) := by decide +kernel
theorem dX11_device_111 : decode cX11_device 111 = .ok (.aload_n 0, 1) := by decide +kernel
theorem dX11_device_112 : decode cX11_device 112 = .ok (.getfield 24, 3) := by decide +kernel
theorem dX11_device_115 : decode cX11_device 115 = .ok (.aload_n 0, 1) := by decide +kernel
theorem dX11_device_116 : decode cX11_device 116 = .ok (.getfield 86, 3) := by decide +kernel
theorem dX11_device_119 : decode cX11_device 119 = .ok (.aload 7, 2) := by decide +kernel
theorem dX11_device_121 : decode cX11_device 121 = .ok (.aastore, 1) := by decide +kernel
theorem dX11_device_122 : decode cX11_device 122 = .ok (.aload_n 0, 1) := by decide +kernel
theorem dX11_device_123 : decode cX11_device 123 = .ok (.dup, 1) := by decide +kernel
theorem dX11_device_124 : decode cX11_device 124 = .ok (.getfield 86, 3) := by decide +kernel
theorem dX11_device_127 : decode cX11_device 127 = .ok (.iconst 1, 1) := by decide +kernel
theorem dX11_device_128 : decode cX11_device 128 = .ok (.iadd, 1) := by decide +kernel
theorem dX11_device_129 : decode cX11_device 129 = .ok (.putfield 86, 3) := by decide +kernel
theorem dX11_device_132 : decode cX11_device 132 = .ok (.aload_n 0, 1) := by decide +kernel
theorem dX11_device_133 : decode cX11_device 133 = .ok (.getfield 86, 3) := by decide +kernel
theorem dX11_device_136 : decode cX11_device 136 = .ok (.iconst 1, 1) := by decide +kernel
theorem dX11_device_137 : decode cX11_device 137 = .ok (.isub, 1) := by decide +kernel
theorem dX11_device_138 : decode cX11_device 138 = .ok (.ireturn, 1) := by decide +kernel
theorem dX11_coupler_0 : decode cX11_coupler 0 = .ok (.aload_n 0, 1) := by decide +kernel
theorem dX11_coupler_1 : decode cX11_coupler 1 = .ok (.iload_n 1, 1) := by decide +kernel
theorem dX11_coupler_2 : decode cX11_coupler 2 = .ok (.invokevirtual 82, 3) := by decide +kernel
theorem dX11_coupler_5 : decode cX11_coupler 5 = .ok (.astore_n 3, 1) := by decide +kernel
theorem dX11_coupler_6 : decode cX11_coupler 6 = .ok (.aload_n 0, 1) := by decide +kernel
theorem dX11_coupler_7 : decode cX11_coupler 7 = .ok (.iload_n 2, 1) := by decide +kernel
theorem dX11_coupler_8 : decode cX11_coupler 8 = .ok (.invokevirtual 82, 3) := by decide +kernel
theorem dX11_coupler_11 : decode cX11_coupler 11 = .ok (.astore 4, 2) := by decide +kernel
theorem dX11_coupler_13 : decode cX11_coupler 13 = .ok (.aload_n 0, 1) := by decide +kernel
theorem dX11_coupler_14 : decode cX11_coupler 14 = .ok (.getfield 113, 3) := by decide +kernel
theorem dX11_coupler_17 : decode cX11_coupler 17 = .ok (.iconst 5, 1) := by decide +kernel
theorem dX11_coupler_18 : decode cX11_coupler 18 = .ok (.if_icmp .ge 20, 3) := by decide +kernel
theorem dX11_coupler_21 : decode cX11_coupler 21 = .ok (.aload_n 3, 1) := by decide +kernel
theorem dX11_coupler_22 : decode cX11_coupler 22 = .ok (.ifnull 16, 3) := by decide +kernel
theorem dX11_coupler_25 : decode cX11_coupler 25 = .ok (.aload 4, 2) := by decide +kernel
theorem dX11_coupler_27 : decode cX11_coupler 27 = .ok (.ifnull 11, 3) := by decide +kernel
theorem dX11_coupler_30 : decode cX11_coupler 30 = .ok (.aload_n 3, 1) := by decide +kernel
theorem dX11_coupler_31 : decode cX11_coupler 31 = .ok (.iload_n 2, 1) := by decide +kernel
theorem dX11_coupler_32 : decode cX11_coupler 32 = .ok (.invokevirtual 116, 3) := by decide +kernel
theorem dX11_coupler_35 : decode cX11_coupler 35 = .ok (.ifCond .eq 5, 3) := by decide +kernel
theorem dX11_coupler_38 : decode cX11_coupler 38 = .ok (.iconst (-1), 1) := by decide +kernel
theorem dX11_coupler_39 : decode cX11_coupler 39 = .ok (.ireturn, 1) := by decide +kernel
theorem dX11_coupler_40 : decode cX11_coupler 40 = .ok (.new 28, 3) := by decide +kernel
theorem dX11_coupler_43 : decode cX11_coupler 43 = .ok (.dup, 1) := by decide +kernel
theorem dX11_coupler_44 : decode cX11_coupler 44 = .ok (.invokespecial 119, 3) := by decide +kernel
theorem dX11_coupler_47 : decode cX11_coupler 47 = .ok (.astore 5, 2) := by decide +kernel
theorem dX11_coupler_49 : decode cX11_coupler 49 = .ok (.new 96, 3) := by decide +kernel
theorem dX11_coupler_52 : decode cX11_coupler 52 = .ok (.dup, 1) := by decide +kernel
theorem dX11_coupler_53 : decode cX11_coupler 53 = .ok (.aload_n 0, 1) := by decide +kernel
theorem dX11_coupler_54 : decode cX11_coupler 54 = .ok (.getfield 10, 3) := by decide +kernel
theorem dX11_coupler_57 : decode cX11_coupler 57 = .ok (.invokespecial 98, 3) := by decide +kernel
theorem dX11_coupler_60 : decode cX11_coupler 60 = .ok (.astore 6, 2) := by decide +kernel
theorem dX11_coupler_62 : decode cX11_coupler 62 = .ok (.new 96, 3) := by decide +kernel
theorem dX11_coupler_65 : decode cX11_coupler 65 = .ok (.dup, 1) := by decide +kernel
theorem dX11_coupler_66 : decode cX11_coupler 66 = .ok (.aload_n 0, 1) := by decide +kernel
theorem dX11_coupler_67 : decode cX11_coupler 67 = .ok (.getfield 10, 3) := by decide +kernel
theorem dX11_coupler_70 : decode cX11_coupler 70 = .ok (.invokespecial 98, 3) := by decide +kernel
theorem dX11_coupler_73 : decode cX11_coupler 73 = .ok (.astore 7, 2) := by decide +kernel
theorem dX11_coupler_75 : decode cX11_coupler 75 = .ok (.new 34, 3) := by decide +kernel
theorem dX11_coupler_78 : decode cX11_coupler 78 = .ok (.dup, 1) := by decide +kernel
theorem dX11_coupler_79 : decode cX11_coupler 79 = .ok (.aload 6, 2) := by decide +kernel
theorem dX11_coupler_81 : decode cX11_coupler 81 = .ok (.aload 7, 2) := by decide +kernel
theorem dX11_coupler_83 : decode cX11_coupler 83 = .ok (.aload 5, 2) := by decide +kernel
theorem dX11_coupler_85 : decode cX11_coupler 85 = .ok (.aload 4, 2) := by decide +kernel
theorem dX11_coupler_87 : decode cX11_coupler 87 = .ok (.getfield 120, 3) := by decide +kernel
theorem dX11_coupler_90 : decode cX11_coupler 90 = .ok (.invokespecial 123, 3) := by decide +kernel
theorem dX11_coupler_93 : decode cX11_coupler 93 = .ok (.astore 8, 2) := by decide +kernel
theorem dX11_coupler_95 : decode cX11_coupler 95 = .ok (.new 34, 3) := by decide +kernel
theorem dX11_coupler_98 : decode cX11_coupler 98 = .ok (.dup, 1) := by decide +kernel
theorem dX11_coupler_99 : decode cX11_coupler 99 = .ok (.aload 7, 2) := by decide +kernel
theorem dX11_coupler_101 : decode cX11_coupler 101 = .ok (.aload 6, 2) := by decide +kernel
theorem dX11_coupler_103 : decode cX11_coupler 103 = .ok (.aload 5, 2) := by decide +kernel
theorem dX11_coupler_105 : decode cX11_coupler 105 = .ok (.aload_n 3, 1) := by decide +kernel
theorem dX11_coupler_106 : decode cX11_coupler 106 = .ok (.getfield 120, 3) := by decide +kernel
theorem dX11_coupler_109 : decode cX11_coupler 109 = .ok (.invokespecial 123, 3) := by decide +kernel
theorem dX11_coupler_112 : decode cX11_coupler 112 = .ok (.astore 9, 2) := by decide +kernel
theorem dX11_coupler_114 : decode cX11_coupler 114 = .ok (.aload_n 0, 1) := by decide +kernel
theorem dX11_coupler_115 : decode cX11_coupler 115 = .ok (.iload_n 1, 1) := by decide +kernel
theorem dX11_coupler_116 : decode cX11_coupler 116 = .ok (.aload_n 3, 1) := by decide +kernel
theorem dX11_coupler_117 : decode cX11_coupler 117 = .ok (.getfield 120, 3) := by decide +kernel
theorem dX11_coupler_120 : decode cX11_coupler 120 = .ok (.iload_n 2, 1) := by decide +kernel
theorem dX11_coupler_121 : decode cX11_coupler 121 = .ok (.aload 4, 2) := by decide +kernel
theorem dX11_coupler_123 : decode cX11_coupler 123 = .ok (.getfield 120, 3) := by decide +kernel
theorem dX11_coupler_126 : decode cX11_coupler 126 = .ok (.invokevirtual 126, 3) := by decide +kernel
theorem dX11_coupler_129 : decode cX11_coupler 129 = .ok (.aload_n 3, 1) := by decide +kernel
theorem dX11_coupler_130 : decode cX11_coupler 130 = .ok (.aload 8, 2) := by decide +kernel
theorem dX11_coupler_132 : decode cX11_coupler 132 = .ok (.invokevirtual 130, 3) := by decide +kernel
theorem dX11_coupler_135 : decode cX11_coupler 135 = .ok (.aload 4, 2) := by decide +kernel
theorem dX11_coupler_137 : decode cX11_coupler 137 = .ok (.aload 9, 2) := by decide +kernel
theorem dX11_coupler_139 : decode cX11_coupler 139 = .ok (.invokevirtual 130, 3) := by decide +kernel
theorem dX11_coupler_142 : decode cX11_coupler 142 = .ok (.aload_n 0, 1) := by decide +kernel
theorem dX11_coupler_143 : decode cX11_coupler 143 = .ok (.getfield 30, 3) := by decide +kernel
theorem dX11_coupler_146 : decode cX11_coupler 146 = .ok (.aload_n 0, 1) := by decide +kernel
theorem dX11_coupler_147 : decode cX11_coupler 147 = .ok (.getfield 113, 3) := by decide +kernel
theorem dX11_coupler_150 : decode cX11_coupler 150 = .ok (.aload 5, 2) := by decide +kernel
theorem dX11_coupler_152 : decode cX11_coupler 152 = .ok (.aastore, 1) := by decide +kernel
theorem dX11_coupler_153 : decode cX11_coupler 153 = .ok (.aload_n 0, 1) := by decide +kernel
theorem dX11_coupler_154 : decode cX11_coupler 154 = .ok (.getfield 36, 3) := by decide +kernel
theorem dX11_coupler_157 : decode cX11_coupler 157 = .ok (.iconst 2, 1) := by decide +kernel
theorem dX11_coupler_158 : decode cX11_coupler 158 = .ok (.aload_n 0, 1) := by decide +kernel
theorem dX11_coupler_159 : decode cX11_coupler 159 = .ok (.getfield 113, 3) := by decide +kernel
theorem dX11_coupler_162 : decode cX11_coupler 162 = .ok (.imul, 1) := by decide +kernel
theorem dX11_coupler_163 : decode cX11_coupler 163 = .ok (.aload 8, 2) := by decide +kernel
theorem dX11_coupler_165 : decode cX11_coupler 165 = .ok (.aastore, 1) := by decide +kernel
theorem dX11_coupler_166 : decode cX11_coupler 166 = .ok (.aload_n 0, 1) := by decide +kernel
theorem dX11_coupler_167 : decode cX11_coupler 167 = .ok (.getfield 36, 3) := by decide +kernel
theorem dX11_coupler_170 : decode cX11_coupler 170 = .ok (.iconst 2, 1) := by decide +kernel
theorem dX11_coupler_171 : decode cX11_coupler 171 = .ok (.aload_n 0, 1) := by decide +kernel
theorem dX11_coupler_172 : decode cX11_coupler 172 = .ok (.getfield 113, 3) := by decide +kernel
theorem dX11_coupler_175 : decode cX11_coupler 175 = .ok (.imul, 1) := by decide +kernel
theorem dX11_coupler_176 : decode cX11_coupler 176 = .ok (.iconst 1, 1) := by decide +kernel
theorem dX11_coupler_177 : decode cX11_coupler 177 = .ok (.iadd, 1) := by decide +kernel
theorem dX11_coupler_178 : decode cX11_coupler 178 = .ok (.aload 9, 2) := by decide +kernel
theorem dX11_coupler_180 : decode cX11_coupler 180 = .ok (.aastore, 1) := by decide +kernel
theorem dX11_coupler_181 : decode cX11_coupler 181 = .ok (.aload_n 0, 1) := by decide +kernel
theorem dX11_coupler_182 : decode cX11_coupler 182 = .ok (.dup, 1) := by decide +kernel
theorem dX11_coupler_183 : decode cX11_coupler 183 = .ok (.getfield 113, 3) := by decide +kernel
theorem dX11_coupler_186 : decode cX11_coupler 186 = .ok (.iconst 1, 1) := by decide +kernel
theorem dX11_coupler_187 : decode cX11_coupler 187 = .ok (.iadd, 1) := by decide +kernel
theorem dX11_coupler_188 : decode cX11_coupler 188 = .ok (.putfield 113, 3) := by decide +kernel
theorem dX11_coupler_191 : decode cX11_coupler 191 = .ok (.aload_n 0, 1) := by decide +kernel
theorem dX11_coupler_192 : decode cX11_coupler 192 = .ok (.getfield 113, 3) := by decide +kernel
theorem dX11_coupler_195 : decode cX11_coupler 195 = .ok (.iconst 1, 1) := by decide +kernel
theorem dX11_coupler_196 : decode cX11_coupler 196 = .ok (.isub, 1) := by decide +kernel
theorem dX11_coupler_197 : decode cX11_coupler 197 = .ok (.ireturn, 1) := by decide +kernel
theorem dX11_mode_0 : decode cX11_mode 0 = .ok (.aload_n 0, 1) := by decide +kernel
theorem dX11_mode_1 : decode cX11_mode 1 = .ok (.iload_n 1, 1) := by decide +kernel
theorem dX11_mode_2 : decode cX11_mode 2 = .ok (.invokevirtual 134, 3) := by decide +kernel
theorem dX11_mode_5 : decode cX11_mode 5 = .ok (.astore_n 3, 1) := by decide +kernel
theorem dX11_mode_6 : decode cX11_mode 6 = .ok (.aload_n 3, 1) := by decide +kernel
theorem dX11_mode_7 : decode cX11_mode 7 = .ok (.ifnull 12, 3) := by decide +kernel
theorem dX11_mode_10 : decode cX11_mode 10 = .ok (.iload_n 2, 1) := by decide +kernel
theorem dX11_mode_11 : decode cX11_mode 11 = .ok (.iconst 0, 1) := by decide +kernel
theorem dX11_mode_12 : decode cX11_mode 12 = .ok (.iconst 2, 1) := by decide +kernel
theorem dX11_mode_13 : decode cX11_mode 13 = .ok (.invokestatic 71, 3) := by decide +kernel
theorem dX11_mode_16 : decode cX11_mode 16 = .ok (.ifCond .ne 5, 3) := by decide +kernel
theorem dX11_mode_19 : decode cX11_mode 19 = .ok (.iconst 0, 1) := by decide +kernel
theorem dX11_mode_20 : decode cX11_mode 20 = .ok (.ireturn, 1) := by decide +kernel
theorem dX11_mode_21 : decode cX11_mode 21 = .ok (.aload_n 3, 1) := by decide +kernel
theorem dX11_mode_22 : decode cX11_mode 22 = .ok (.iload_n 2, 1) := by decide +kernel
theorem dX11_mode_23 : decode cX11_mode 23 = .ok (.putfield 138, 3) := by decide +kernel
theorem dX11_mode_26 : decode cX11_mode 26 = .ok (.iconst 1, 1) := by decide +kernel
theorem dX11_mode_27 : decode cX11_mode 27 = .ok (.ireturn, 1) := by decide +kernel
theorem dX11_filterAt_0 : decode cX11_filterAt 0 = .ok (.iload_n 1, 1) := by decide +kernel
theorem dX11_filterAt_1 : decode cX11_filterAt 1 = .ok (.iconst 0, 1) := by decide +kernel
theorem dX11_filterAt_2 : decode cX11_filterAt 2 = .ok (.aload_n 0, 1) := by decide +kernel
theorem dX11_filterAt_3 : decode cX11_filterAt 3 = .ok (.getfield 113, 3) := by decide +kernel
theorem dX11_filterAt_6 : decode cX11_filterAt 6 = .ok (.iconst 1, 1) := by decide +kernel
theorem dX11_filterAt_7 : decode cX11_filterAt 7 = .ok (.isub, 1) := by decide +kernel
theorem dX11_filterAt_8 : decode cX11_filterAt 8 = .ok (.invokestatic 71, 3) := by decide +kernel
theorem dX11_filterAt_11 : decode cX11_filterAt 11 = .ok (.ifCond .eq 12, 3) := by decide +kernel
theorem dX11_filterAt_14 : decode cX11_filterAt 14 = .ok (.aload_n 0, 1) := by decide +kernel
theorem dX11_filterAt_15 : decode cX11_filterAt 15 = .ok (.getfield 30, 3) := by decide +kernel
theorem dX11_filterAt_18 : decode cX11_filterAt 18 = .ok (.iload_n 1, 1) := by decide +kernel
theorem dX11_filterAt_19 : decode cX11_filterAt 19 = .ok (.aaload, 1) := by decide +kernel
theorem dX11_filterAt_20 : decode cX11_filterAt 20 = .ok (.goto 4, 3) := by decide +kernel
theorem dX11_filterAt_23 : decode cX11_filterAt 23 = .ok (.aconst_null, 1) := by decide +kernel
theorem dX11_filterAt_24 : decode cX11_filterAt 24 = .ok (.areturn, 1) := by decide +kernel
theorem dX11_filter_0 : decode cX11_filter 0 = .ok (.aload_n 0, 1) := by decide +kernel
theorem dX11_filter_1 : decode cX11_filter 1 = .ok (.iload_n 1, 1) := by decide +kernel
theorem dX11_filter_2 : decode cX11_filter 2 = .ok (.invokevirtual 134, 3) := by decide +kernel
theorem dX11_filter_5 : decode cX11_filter 5 = .ok (.astore 4, 2) := by decide +kernel
theorem dX11_filter_7 : decode cX11_filter 7 = .ok (.aload 4, 2) := by decide +kernel
theorem dX11_filter_9 : decode cX11_filter 9 = .ok (.ifnull 13, 3) := by decide +kernel
theorem dX11_filter_12 : decode cX11_filter 12 = .ok (.iload_n 2, 1) := by decide +kernel
theorem dX11_filter_13 : decode cX11_filter 13 = .ok (.iconst 1, 1) := by decide +kernel
theorem dX11_filter_14 : decode cX11_filter 14 = .ok (.ldc 141, 2) := by decide +kernel
theorem dX11_filter_16 : decode cX11_filter 16 = .ok (.invokestatic 71, 3) := by decide +kernel
theorem dX11_filter_19 : decode cX11_filter 19 = .ok (.ifCond .ne 5, 3) := by decide +kernel
theorem dX11_filter_22 : decode cX11_filter 22 = .ok (.iconst 0, 1) := by decide +kernel
theorem dX11_filter_23 : decode cX11_filter 23 = .ok (.ireturn, 1) := by decide +kernel
theorem dX11_filter_24 : decode cX11_filter 24 = .ok (.aload 4, 2) := by decide +kernel
theorem dX11_filter_26 : decode cX11_filter 26 = .ok (.iload_n 2, 1) := by decide +kernel
theorem dX11_filter_27 : decode cX11_filter 27 = .ok (.iload_n 3, 1) := by decide +kernel
theorem dX11_filter_28 : decode cX11_filter 28 = .ok (.invokevirtual 142, 3) := by decide +kernel
theorem dX11_filter_31 : decode cX11_filter 31 = .ok (.ireturn, 1) := by decide +kernel
theorem dX11_object_0 : decode cX11_object 0 = .ok (.aload_n 0, 1) := by decide +kernel
theorem dX11_object_1 : decode cX11_object 1 = .ok (.iload_n 1, 1) := by decide +kernel
theorem dX11_object_2 : decode cX11_object 2 = .ok (.invokevirtual 146, 3) := by decide +kernel
theorem dX11_object_5 : decode cX11_object 5 = .ok (.astore 5, 2) := by decide +kernel
theorem dX11_object_7 : decode cX11_object 7 = .ok (.aload 5, 2) := by decide +kernel
theorem dX11_object_9 : decode cX11_object 9 = .ok (.ifnull 37, 3) := by decide +kernel
theorem dX11_object_12 : decode cX11_object 12 = .ok (.iload_n 2, 1) := by decide +kernel
theorem dX11_object_13 : decode cX11_object 13 = .ok (.iconst 0, 1) := by decide +kernel
theorem dX11_object_14 : decode cX11_object 14 = .ok (.getstatic 150, 3) := by decide +kernel
theorem dX11_object_17 : decode cX11_object 17 = .ok (.arraylength, 1) := by decide +kernel
theorem dX11_object_18 : decode cX11_object 18 = .ok (.iconst 1, 1) := by decide +kernel
theorem dX11_object_19 : decode cX11_object 19 = .ok (.isub, 1) := by decide +kernel
theorem dX11_object_20 : decode cX11_object 20 = .ok (.invokestatic 71, 3) := by decide +kernel
theorem dX11_object_23 : decode cX11_object 23 = .ok (.ifCond .eq 23, 3) := by decide +kernel
theorem dX11_object_26 : decode cX11_object 26 = .ok (.iload_n 3, 1) := by decide +kernel
theorem dX11_object_27 : decode cX11_object 27 = .ok (.iconst 0, 1) := by decide +kernel
theorem dX11_object_28 : decode cX11_object 28 = .ok (.bipush 31, 2) := by decide +kernel
theorem dX11_object_30 : decode cX11_object 30 = .ok (.invokestatic 71, 3) := by decide +kernel
theorem dX11_object_33 : decode cX11_object 33 = .ok (.ifCond .eq 13, 3) := by decide +kernel
theorem dX11_object_36 : decode cX11_object 36 = .ok (.iload 4, 2) := by decide +kernel
theorem dX11_object_38 : decode cX11_object 38 = .ok (.iconst 0, 1) := by decide +kernel
theorem dX11_object_39 : decode cX11_object 39 = .ok (.iconst 3, 1) := by decide +kernel
theorem dX11_object_40 : decode cX11_object 40 = .ok (.invokestatic 71, 3) := by decide +kernel
theorem dX11_object_43 : decode cX11_object 43 = .ok (.ifCond .ne 5, 3) := by decide +kernel
theorem dX11_object_46 : decode cX11_object 46 = .ok (.iconst (-1), 1) := by decide +kernel
theorem dX11_object_47 : decode cX11_object 47 = .ok (.ireturn, 1) := by decide +kernel
theorem dX11_object_48 : decode cX11_object 48 = .ok (.aload 5, 2) := by decide +kernel
theorem dX11_object_50 : decode cX11_object 50 = .ok (.getstatic 150, 3) := by decide +kernel
theorem dX11_object_53 : decode cX11_object 53 = .ok (.iload_n 2, 1) := by decide +kernel
theorem dX11_object_54 : decode cX11_object 54 = .ok (.iaload, 1) := by decide +kernel
theorem dX11_object_55 : decode cX11_object 55 = .ok (.iload_n 3, 1) := by decide +kernel
theorem dX11_object_56 : decode cX11_object 56 = .ok (.iload 4, 2) := by decide +kernel
theorem dX11_object_58 : decode cX11_object 58 = .ok (.invokevirtual 153, 3) := by decide +kernel
theorem dX11_object_61 : decode cX11_object 61 = .ok (.ireturn, 1) := by decide +kernel
theorem dX11_deviceAt_0 : decode cX11_deviceAt 0 = .ok (.iload_n 1, 1) := by decide +kernel
theorem dX11_deviceAt_1 : decode cX11_deviceAt 1 = .ok (.iconst 0, 1) := by decide +kernel
theorem dX11_deviceAt_2 : decode cX11_deviceAt 2 = .ok (.aload_n 0, 1) := by decide +kernel
theorem dX11_deviceAt_3 : decode cX11_deviceAt 3 = .ok (.getfield 86, 3) := by decide +kernel
theorem dX11_deviceAt_6 : decode cX11_deviceAt 6 = .ok (.iconst 1, 1) := by decide +kernel
theorem dX11_deviceAt_7 : decode cX11_deviceAt 7 = .ok (.isub, 1) := by decide +kernel
theorem dX11_deviceAt_8 : decode cX11_deviceAt 8 = .ok (.invokestatic 71, 3) := by decide +kernel
theorem dX11_deviceAt_11 : decode cX11_deviceAt 11 = .ok (.ifCond .eq 12, 3) := by decide +kernel
theorem dX11_deviceAt_14 : decode cX11_deviceAt 14 = .ok (.aload_n 0, 1) := by decide +kernel
theorem dX11_deviceAt_15 : decode cX11_deviceAt 15 = .ok (.getfield 24, 3) := by decide +kernel
theorem dX11_deviceAt_18 : decode cX11_deviceAt 18 = .ok (.iload_n 1, 1) := by decide +kernel
theorem dX11_deviceAt_19 : decode cX11_deviceAt 19 = .ok (.aaload, 1) := by decide +kernel
theorem dX11_deviceAt_20 : decode cX11_deviceAt 20 = .ok (.goto 4, 3) := by decide +kernel
theorem dX11_deviceAt_23 : decode cX11_deviceAt 23 = .ok (.aconst_null, 1) := by decide +kernel
theorem dX11_deviceAt_24 : decode cX11_deviceAt 24 = .ok (.areturn, 1) := by decide +kernel
theorem dX11_flags_0 : decode cX11_flags 0 = .ok (.aload_n 0, 1) := by decide +kernel
theorem dX11_flags_1 : decode cX11_flags 1 = .ok (.iload_n 1, 1) := by decide +kernel
theorem dX11_flags_2 : decode cX11_flags 2 = .ok (.iload_n 2, 1) := by decide +kernel
theorem dX11_flags_3 : decode cX11_flags 3 = .ok (.invokevirtual 157, 3) := by decide +kernel
theorem dX11_flags_6 : decode cX11_flags 6 = .ok (.astore 4, 2) := by decide +kernel
theorem dX11_flags_8 : decode cX11_flags 8 = .ok (.aload 4, 2) := by decide +kernel
theorem dX11_flags_10 : decode cX11_flags 10 = .ok (.ifnull 13, 3) := by decide +kernel
theorem dX11_flags_13 : decode cX11_flags 13 = .ok (.iload_n 3, 1) := by decide +kernel
theorem dX11_flags_14 : decode cX11_flags 14 = .ok (.iconst 0, 1) := by decide +kernel
theorem dX11_flags_15 : decode cX11_flags 15 = .ok (.bipush 31, 2) := by decide +kernel
theorem dX11_flags_17 : decode cX11_flags 17 = .ok (.invokestatic 71, 3) := by decide +kernel
theorem dX11_flags_20 : decode cX11_flags 20 = .ok (.ifCond .ne 5, 3) := by decide +kernel
theorem dX11_flags_23 : decode cX11_flags 23 = .ok (.iconst 0, 1) := by decide +kernel
theorem dX11_flags_24 : decode cX11_flags 24 = .ok (.ireturn, 1) := by decide +kernel
theorem dX11_flags_25 : decode cX11_flags 25 = .ok (.aload 4, 2) := by decide +kernel
theorem dX11_flags_27 : decode cX11_flags 27 = .ok (.iload_n 3, 1) := by decide +kernel
theorem dX11_flags_28 : decode cX11_flags 28 = .ok (.putfield 161, 3) := by decide +kernel
theorem dX11_flags_31 : decode cX11_flags 31 = .ok (.iconst 1, 1) := by decide +kernel
theorem dX11_flags_32 : decode cX11_flags 32 = .ok (.ireturn, 1) := by decide +kernel
theorem dX11_objectAt_0 : decode cX11_objectAt 0 = .ok (.aload_n 0, 1) := by decide +kernel
theorem dX11_objectAt_1 : decode cX11_objectAt 1 = .ok (.iload_n 1, 1) := by decide +kernel
theorem dX11_objectAt_2 : decode cX11_objectAt 2 = .ok (.invokevirtual 146, 3) := by decide +kernel
theorem dX11_objectAt_5 : decode cX11_objectAt 5 = .ok (.astore_n 3, 1) := by decide +kernel
theorem dX11_objectAt_6 : decode cX11_objectAt 6 = .ok (.aload_n 3, 1) := by decide +kernel
theorem dX11_objectAt_7 : decode cX11_objectAt 7 = .ok (.ifnonnull 7, 3) := by decide +kernel
theorem dX11_objectAt_10 : decode cX11_objectAt 10 = .ok (.aconst_null, 1) := by decide +kernel
theorem dX11_objectAt_11 : decode cX11_objectAt 11 = .ok (.goto 8, 3) := by decide +kernel
theorem dX11_objectAt_14 : decode cX11_objectAt 14 = .ok (.aload_n 3, 1) := by decide +kernel
theorem dX11_objectAt_15 : decode cX11_objectAt 15 = .ok (.iload_n 2, 1) := by decide +kernel
theorem dX11_objectAt_16 : decode cX11_objectAt 16 = .ok (.invokevirtual 327, 3) := by decide +kernel
theorem dX11_objectAt_19 : decode cX11_objectAt 19 = .ok (.areturn, 1) := by decide +kernel
theorem dX11_link_0 : decode cX11_link 0 = .ok (.aload_n 0, 1) := by decide +kernel
theorem dX11_link_1 : decode cX11_link 1 = .ok (.iload_n 1, 1) := by decide +kernel
theorem dX11_link_2 : decode cX11_link 2 = .ok (.invokevirtual 146, 3) := by decide +kernel
theorem dX11_link_5 : decode cX11_link 5 = .ok (.astore 4, 2) := by decide +kernel
theorem dX11_link_7 : decode cX11_link 7 = .ok (.aload 4, 2) := by decide +kernel
theorem dX11_link_9 : decode cX11_link 9 = .ok (.ifnull 27, 3) := by decide +kernel
theorem dX11_link_12 : decode cX11_link 12 = .ok (.iload_n 3, 1) := by decide +kernel
theorem dX11_link_13 : decode cX11_link 13 = .ok (.iconst 1, 1) := by decide +kernel
theorem dX11_link_14 : decode cX11_link 14 = .ok (.ldc 141, 2) := by decide +kernel
theorem dX11_link_16 : decode cX11_link 16 = .ok (.invokestatic 71, 3) := by decide +kernel
theorem dX11_link_19 : decode cX11_link 19 = .ok (.ifCond .eq 17, 3) := by decide +kernel
theorem dX11_link_22 : decode cX11_link 22 = .ok (.aload 4, 2) := by decide +kernel
theorem dX11_link_24 : decode cX11_link 24 = .ok (.iload_n 2, 1) := by decide +kernel
theorem dX11_link_25 : decode cX11_link 25 = .ok (.iload_n 3, 1) := by decide +kernel
theorem dX11_link_26 : decode cX11_link 26 = .ok (.invokevirtual 166, 3) := by decide +kernel
theorem dX11_link_29 : decode cX11_link 29 = .ok (.ifCond .eq 7, 3) := by decide +kernel
theorem dX11_link_32 : decode cX11_link 32 = .ok (.iconst 1, 1) := by decide +kernel
theorem dX11_link_33 : decode cX11_link 33 = .ok (.goto 4, 3) := by decide +kernel
theorem dX11_link_36 : decode cX11_link 36 = .ok (.iconst 0, 1) := by decide +kernel
theorem dX11_link_37 : decode cX11_link 37 = .ok (.ireturn, 1) := by decide +kernel
theorem dX11_set_0 : decode cX11_set 0 = .ok (.aload_n 0, 1) := by decide +kernel
theorem dX11_set_1 : decode cX11_set 1 = .ok (.iload_n 1, 1) := by decide +kernel
theorem dX11_set_2 : decode cX11_set 2 = .ok (.invokevirtual 146, 3) := by decide +kernel
theorem dX11_set_5 : decode cX11_set 5 = .ok (.astore 4, 2) := by decide +kernel
theorem dX11_set_7 : decode cX11_set 7 = .ok (.aload 4, 2) := by decide +kernel
theorem dX11_set_9 : decode cX11_set 9 = .ok (.ifnonnull 7, 3) := by decide +kernel
theorem dX11_set_12 : decode cX11_set 12 = .ok (.iconst (-1), 1) := by decide +kernel
theorem dX11_set_13 : decode cX11_set 13 = .ok (.goto 10, 3) := by decide +kernel
theorem dX11_set_16 : decode cX11_set 16 = .ok (.aload 4, 2) := by decide +kernel
theorem dX11_set_18 : decode cX11_set 18 = .ok (.iload_n 2, 1) := by decide +kernel
theorem dX11_set_19 : decode cX11_set 19 = .ok (.iload_n 3, 1) := by decide +kernel
theorem dX11_set_20 : decode cX11_set 20 = .ok (.invokevirtual 170, 3) := by decide +kernel
theorem dX11_set_23 : decode cX11_set 23 = .ok (.ireturn, 1) := by decide +kernel
theorem dX11_ask_0 : decode cX11_ask 0 = .ok (.aload_n 0, 1) := by decide +kernel
theorem dX11_ask_1 : decode cX11_ask 1 = .ok (.iload_n 1, 1) := by decide +kernel
theorem dX11_ask_2 : decode cX11_ask 2 = .ok (.invokevirtual 146, 3) := by decide +kernel
theorem dX11_ask_5 : decode cX11_ask 5 = .ok (.astore_n 3, 1) := by decide +kernel
theorem dX11_ask_6 : decode cX11_ask 6 = .ok (.aload_n 3, 1) := by decide +kernel
theorem dX11_ask_7 : decode cX11_ask 7 = .ok (.ifnonnull 7, 3) := by decide +kernel
theorem dX11_ask_10 : decode cX11_ask 10 = .ok (.iconst (-1), 1) := by decide +kernel
theorem dX11_ask_11 : decode cX11_ask 11 = .ok (.goto 8, 3) := by decide +kernel
theorem dX11_ask_14 : decode cX11_ask 14 = .ok (.aload_n 3, 1) := by decide +kernel
theorem dX11_ask_15 : decode cX11_ask 15 = .ok (.iload_n 2, 1) := by decide +kernel
theorem dX11_ask_16 : decode cX11_ask 16 = .ok (.invokevirtual 174, 3) := by decide +kernel
theorem dX11_ask_19 : decode cX11_ask 19 = .ok (.ireturn, 1) := by decide +kernel
theorem dX11_value_0 : decode cX11_value 0 = .ok (.aload_n 0, 1) := by decide +kernel
theorem dX11_value_1 : decode cX11_value 1 = .ok (.iload_n 1, 1) := by decide +kernel
theorem dX11_value_2 : decode cX11_value 2 = .ok (.iload_n 2, 1) := by decide +kernel
theorem dX11_value_3 : decode cX11_value 3 = .ok (.invokevirtual 157, 3) := by decide +kernel
theorem dX11_value_6 : decode cX11_value 6 = .ok (.astore_n 3, 1) := by decide +kernel
theorem dX11_value_7 : decode cX11_value 7 = .ok (.aload_n 3, 1) := by decide +kernel
theorem dX11_value_8 : decode cX11_value 8 = .ok (.ifnonnull 9, 3) := by decide +kernel
theorem dX11_value_11 : decode cX11_value 11 = .ok (.ldc2_w 177, 3) := by decide +kernel
theorem dX11_value_14 : decode cX11_value 14 = .ok (.goto 12, 3) := by decide +kernel
theorem dX11_value_17 : decode cX11_value 17 = .ok (.aload_n 3, 1) := by decide +kernel
theorem dX11_value_18 : decode cX11_value 18 = .ok (.getfield 179, 3) := by decide +kernel
theorem dX11_value_21 : decode cX11_value 21 = .ok (.i2l, 1) := by decide +kernel
theorem dX11_value_22 : decode cX11_value 22 = .ok (.ldc2_w 182, 3) := by decide +kernel
theorem dX11_value_25 : decode cX11_value 25 = .ok (.land, 1) := by decide +kernel
theorem dX11_value_26 : decode cX11_value 26 = .ok (.lreturn, 1) := by decide +kernel
theorem dX11_updated_0 : decode cX11_updated 0 = .ok (.aload_n 0, 1) := by decide +kernel
theorem dX11_updated_1 : decode cX11_updated 1 = .ok (.iload_n 1, 1) := by decide +kernel
theorem dX11_updated_2 : decode cX11_updated 2 = .ok (.iload_n 2, 1) := by decide +kernel
theorem dX11_updated_3 : decode cX11_updated 3 = .ok (.invokevirtual 157, 3) := by decide +kernel
theorem dX11_updated_6 : decode cX11_updated 6 = .ok (.astore_n 3, 1) := by decide +kernel
theorem dX11_updated_7 : decode cX11_updated 7 = .ok (.aload_n 3, 1) := by decide +kernel
theorem dX11_updated_8 : decode cX11_updated 8 = .ok (.ifnonnull 7, 3) := by decide +kernel
theorem dX11_updated_11 : decode cX11_updated 11 = .ok (.iconst (-1), 1) := by decide +kernel
theorem dX11_updated_12 : decode cX11_updated 12 = .ok (.goto 7, 3) := by decide +kernel
theorem dX11_updated_15 : decode cX11_updated 15 = .ok (.aload_n 3, 1) := by decide +kernel
theorem dX11_updated_16 : decode cX11_updated 16 = .ok (.getfield 184, 3) := by decide +kernel
theorem dX11_updated_19 : decode cX11_updated 19 = .ok (.ireturn, 1) := by decide +kernel
theorem dX11_hundredths_0 : decode cX11_hundredths 0 = .ok (.aload_n 0, 1) := by decide +kernel
theorem dX11_hundredths_1 : decode cX11_hundredths 1 = .ok (.iload_n 1, 1) := by decide +kernel
theorem dX11_hundredths_2 : decode cX11_hundredths 2 = .ok (.iload_n 2, 1) := by decide +kernel
theorem dX11_hundredths_3 : decode cX11_hundredths 3 = .ok (.invokevirtual 157, 3) := by decide +kernel
theorem dX11_hundredths_6 : decode cX11_hundredths 6 = .ok (.astore_n 3, 1) := by decide +kernel
theorem dX11_hundredths_7 : decode cX11_hundredths 7 = .ok (.aload_n 3, 1) := by decide +kernel
theorem dX11_hundredths_8 : decode cX11_hundredths 8 = .ok (.ifnull 12, 3) := by decide +kernel
theorem dX11_hundredths_11 : decode cX11_hundredths 11 = .ok (.aload_n 3, 1) := by decide +kernel
theorem dX11_hundredths_12 : decode cX11_hundredths 12 = .ok (.getfield 187, 3) := by decide +kernel
theorem dX11_hundredths_15 : decode cX11_hundredths 15 = .ok (.bipush 16, 2) := by decide +kernel
theorem dX11_hundredths_17 : decode cX11_hundredths 17 = .ok (.if_icmp .eq 7, 3) := by decide +kernel
theorem dX11_hundredths_20 : decode cX11_hundredths 20 = .ok (.ldc2_w 192, 3) := by decide +kernel
theorem dX11_hundredths_23 : decode cX11_hundredths 23 = .ok (.lreturn, 1) := by decide +kernel
theorem dX11_hundredths_24 : decode cX11_hundredths 24 = .ok (.aload_n 3, 1) := by decide +kernel
theorem dX11_hundredths_25 : decode cX11_hundredths 25 = .ok (.getfield 179, 3) := by decide +kernel
theorem dX11_hundredths_28 : decode cX11_hundredths 28 = .ok (.bipush 15, 2) := by decide +kernel
theorem dX11_hundredths_30 : decode cX11_hundredths 30 = .ok (.ishr, 1) := by decide +kernel
theorem dX11_hundredths_31 : decode cX11_hundredths 31 = .ok (.iconst 1, 1) := by decide +kernel
theorem dX11_hundredths_32 : decode cX11_hundredths 32 = .ok (.iand, 1) := by decide +kernel
theorem dX11_hundredths_33 : decode cX11_hundredths 33 = .ok (.istore 4, 2) := by decide +kernel
theorem dX11_hundredths_35 : decode cX11_hundredths 35 = .ok (.aload_n 3, 1) := by decide +kernel
theorem dX11_hundredths_36 : decode cX11_hundredths 36 = .ok (.getfield 179, 3) := by decide +kernel
theorem dX11_hundredths_39 : decode cX11_hundredths 39 = .ok (.bipush 11, 2) := by decide +kernel
theorem dX11_hundredths_41 : decode cX11_hundredths 41 = .ok (.ishr, 1) := by decide +kernel
theorem dX11_hundredths_42 : decode cX11_hundredths 42 = .ok (.bipush 15, 2) := by decide +kernel
theorem dX11_hundredths_44 : decode cX11_hundredths 44 = .ok (.iand, 1) := by decide +kernel
theorem dX11_hundredths_45 : decode cX11_hundredths 45 = .ok (.istore 5, 2) := by decide +kernel
theorem dX11_hundredths_47 : decode cX11_hundredths 47 = .ok (.aload_n 3, 1) := by decide +kernel
theorem dX11_hundredths_48 : decode cX11_hundredths 48 = .ok (.getfield 179, 3) := by decide +kernel
theorem dX11_hundredths_51 : decode cX11_hundredths 51 = .ok (.sipush 2047, 3) := by decide +kernel
theorem dX11_hundredths_54 : decode cX11_hundredths 54 = .ok (.iand, 1) := by decide +kernel
theorem dX11_hundredths_55 : decode cX11_hundredths 55 = .ok (.sipush 2048, 3) := by decide +kernel
theorem dX11_hundredths_58 : decode cX11_hundredths 58 = .ok (.iload 4, 2) := by decide +kernel
theorem dX11_hundredths_60 : decode cX11_hundredths 60 = .ok (.imul, 1) := by decide +kernel
theorem dX11_hundredths_61 : decode cX11_hundredths 61 = .ok (.isub, 1) := by decide +kernel
theorem dX11_hundredths_62 : decode cX11_hundredths 62 = .ok (.i2l, 1) := by decide +kernel
theorem dX11_hundredths_63 : decode cX11_hundredths 63 = .ok (.lstore 6, 2) := by decide +kernel
theorem dX11_hundredths_65 : decode cX11_hundredths 65 = .ok (.lload 6, 2) := by decide +kernel
theorem dX11_hundredths_67 : decode cX11_hundredths 67 = .ok (.lconst 1, 1) := by decide +kernel
theorem dX11_hundredths_68 : decode cX11_hundredths 68 = .ok (.iload 5, 2) := by decide +kernel
theorem dX11_hundredths_70 : decode cX11_hundredths 70 = .ok (.lshl, 1) := by decide +kernel
theorem dX11_hundredths_71 : decode cX11_hundredths 71 = .ok (.lmul, 1) := by decide +kernel
theorem dX11_hundredths_72 : decode cX11_hundredths 72 = .ok (.lreturn, 1) := by decide +kernel
theorem dX11_point_0 : decode cX11_point 0 = .ok (.aload_n 0, 1) := by decide +kernel
theorem dX11_point_1 : decode cX11_point 1 = .ok (.iload_n 1, 1) := by decide +kernel
theorem dX11_point_2 : decode cX11_point 2 = .ok (.iload_n 2, 1) := by decide +kernel
theorem dX11_point_3 : decode cX11_point 3 = .ok (.invokevirtual 157, 3) := by decide +kernel
theorem dX11_point_6 : decode cX11_point 6 = .ok (.astore 4, 2) := by decide +kernel
theorem dX11_point_8 : decode cX11_point 8 = .ok (.aload 4, 2) := by decide +kernel
theorem dX11_point_10 : decode cX11_point 10 = .ok (.ifnull 13, 3) := by decide +kernel
theorem dX11_point_13 : decode cX11_point 13 = .ok (.aload 4, 2) := by decide +kernel
theorem dX11_point_15 : decode cX11_point 15 = .ok (.getfield 187, 3) := by decide +kernel
theorem dX11_point_18 : decode cX11_point 18 = .ok (.bipush 16, 2) := by decide +kernel
theorem dX11_point_20 : decode cX11_point 20 = .ok (.if_icmp .eq 5, 3) := by decide +kernel
theorem dX11_point_23 : decode cX11_point 23 = .ok (.iconst (-1), 1) := by decide +kernel
theorem dX11_point_24 : decode cX11_point 24 = .ok (.ireturn, 1) := by decide +kernel
theorem dX11_point_25 : decode cX11_point 25 = .ok (.iload_n 3, 1) := by decide +kernel
theorem dX11_point_26 : decode cX11_point 26 = .ok (.invokestatic 194, 3) := by decide +kernel
theorem dX11_point_29 : decode cX11_point 29 = .ok (.istore 5, 2) := by decide +kernel
theorem dX11_point_31 : decode cX11_point 31 = .ok (.iload 5, 2) := by decide +kernel
theorem dX11_point_33 : decode cX11_point 33 = .ok (.iconst (-1), 1) := by decide +kernel
theorem dX11_point_34 : decode cX11_point 34 = .ok (.if_icmp .ne 7, 3) := by decide +kernel
theorem dX11_point_37 : decode cX11_point 37 = .ok (.iconst (-1), 1) := by decide +kernel
theorem dX11_point_38 : decode cX11_point 38 = .ok (.goto 11, 3) := by decide +kernel
theorem dX11_point_41 : decode cX11_point 41 = .ok (.aload_n 0, 1) := by decide +kernel
theorem dX11_point_42 : decode cX11_point 42 = .ok (.iload_n 1, 1) := by decide +kernel
theorem dX11_point_43 : decode cX11_point 43 = .ok (.iload_n 2, 1) := by decide +kernel
theorem dX11_point_44 : decode cX11_point 44 = .ok (.iload 5, 2) := by decide +kernel
theorem dX11_point_46 : decode cX11_point 46 = .ok (.invokevirtual 197, 3) := by decide +kernel
theorem dX11_point_49 : decode cX11_point 49 = .ok (.ireturn, 1) := by decide +kernel
theorem dX11_connect_0 : decode cX11_connect 0 = .ok (.aload_n 0, 1) := by decide +kernel
theorem dX11_connect_1 : decode cX11_connect 1 = .ok (.iload_n 1, 1) := by decide +kernel
theorem dX11_connect_2 : decode cX11_connect 2 = .ok (.invokevirtual 146, 3) := by decide +kernel
theorem dX11_connect_5 : decode cX11_connect 5 = .ok (.astore_n 3, 1) := by decide +kernel
theorem dX11_connect_6 : decode cX11_connect 6 = .ok (.aload_n 3, 1) := by decide +kernel
theorem dX11_connect_7 : decode cX11_connect 7 = .ok (.ifnull 28, 3) := by decide +kernel
theorem dX11_connect_10 : decode cX11_connect 10 = .ok (.iload_n 2, 1) := by decide +kernel
theorem dX11_connect_11 : decode cX11_connect 11 = .ok (.iconst 0, 1) := by decide +kernel
theorem dX11_connect_12 : decode cX11_connect 12 = .ok (.ldc 141, 2) := by decide +kernel
theorem dX11_connect_14 : decode cX11_connect 14 = .ok (.invokestatic 71, 3) := by decide +kernel
theorem dX11_connect_17 : decode cX11_connect 17 = .ok (.ifCond .eq 18, 3) := by decide +kernel
theorem dX11_connect_20 : decode cX11_connect 20 = .ok (.aload_n 3, 1) := by decide +kernel
theorem dX11_connect_21 : decode cX11_connect 21 = .ok (.getfield 200, 3) := by decide +kernel
theorem dX11_connect_24 : decode cX11_connect 24 = .ok (.iload_n 2, 1) := by decide +kernel
theorem dX11_connect_25 : decode cX11_connect 25 = .ok (.invokevirtual 204, 3) := by decide +kernel
theorem dX11_connect_28 : decode cX11_connect 28 = .ok (.ifCond .eq 7, 3) := by decide +kernel
theorem dX11_connect_31 : decode cX11_connect 31 = .ok (.iconst 1, 1) := by decide +kernel
theorem dX11_connect_32 : decode cX11_connect 32 = .ok (.goto 4, 3) := by decide +kernel
theorem dX11_connect_35 : decode cX11_connect 35 = .ok (.iconst 0, 1) := by decide +kernel
theorem dX11_connect_36 : decode cX11_connect 36 = .ok (.ireturn, 1) := by decide +kernel
theorem dX11_disconnect_0 : decode cX11_disconnect 0 = .ok (.aload_n 0, 1) := by decide +kernel
theorem dX11_disconnect_1 : decode cX11_disconnect 1 = .ok (.iload_n 1, 1) := by decide +kernel
theorem dX11_disconnect_2 : decode cX11_disconnect 2 = .ok (.invokevirtual 146, 3) := by decide +kernel
theorem dX11_disconnect_5 : decode cX11_disconnect 5 = .ok (.astore_n 2, 1) := by decide +kernel
theorem dX11_disconnect_6 : decode cX11_disconnect 6 = .ok (.aload_n 2, 1) := by decide +kernel
theorem dX11_disconnect_7 : decode cX11_disconnect 7 = .ok (.ifnull 13, 3) := by decide +kernel
theorem dX11_disconnect_10 : decode cX11_disconnect 10 = .ok (.aload_n 2, 1) := by decide +kernel
theorem dX11_disconnect_11 : decode cX11_disconnect 11 = .ok (.getfield 200, 3) := by decide +kernel
theorem dX11_disconnect_14 : decode cX11_disconnect 14 = .ok (.getfield 207, 3) := by decide +kernel
theorem dX11_disconnect_17 : decode cX11_disconnect 17 = .ok (.ifCond .ne 5, 3) := by decide +kernel
theorem dX11_disconnect_20 : decode cX11_disconnect 20 = .ok (.iconst 0, 1) := by decide +kernel
theorem dX11_disconnect_21 : decode cX11_disconnect 21 = .ok (.ireturn, 1) := by decide +kernel
theorem dX11_disconnect_22 : decode cX11_disconnect 22 = .ok (.aload_n 2, 1) := by decide +kernel
theorem dX11_disconnect_23 : decode cX11_disconnect 23 = .ok (.getfield 200, 3) := by decide +kernel
theorem dX11_disconnect_26 : decode cX11_disconnect 26 = .ok (.invokevirtual 210, 3) := by decide +kernel
theorem dX11_disconnect_29 : decode cX11_disconnect 29 = .ok (.iconst 1, 1) := by decide +kernel
theorem dX11_disconnect_30 : decode cX11_disconnect 30 = .ok (.ireturn, 1) := by decide +kernel
theorem dX11_peek_0 : decode cX11_peek 0 = .ok (.aload_n 0, 1) := by decide +kernel
theorem dX11_peek_1 : decode cX11_peek 1 = .ok (.iload_n 1, 1) := by decide +kernel
theorem dX11_peek_2 : decode cX11_peek 2 = .ok (.invokevirtual 146, 3) := by decide +kernel
theorem dX11_peek_5 : decode cX11_peek 5 = .ok (.astore 4, 2) := by decide +kernel
theorem dX11_peek_7 : decode cX11_peek 7 = .ok (.aload 4, 2) := by decide +kernel
theorem dX11_peek_9 : decode cX11_peek 9 = .ok (.ifnull 40, 3) := by decide +kernel
theorem dX11_peek_12 : decode cX11_peek 12 = .ok (.iload_n 2, 1) := by decide +kernel
theorem dX11_peek_13 : decode cX11_peek 13 = .ok (.iconst 0, 1) := by decide +kernel
theorem dX11_peek_14 : decode cX11_peek 14 = .ok (.ldc 141, 2) := by decide +kernel
theorem dX11_peek_16 : decode cX11_peek 16 = .ok (.invokestatic 71, 3) := by decide +kernel
theorem dX11_peek_19 : decode cX11_peek 19 = .ok (.ifCond .eq 30, 3) := by decide +kernel
theorem dX11_peek_22 : decode cX11_peek 22 = .ok (.iload_n 3, 1) := by decide +kernel
theorem dX11_peek_23 : decode cX11_peek 23 = .ok (.iconst 1, 1) := by decide +kernel
theorem dX11_peek_24 : decode cX11_peek 24 = .ok (.bipush 12, 2) := by decide +kernel
theorem dX11_peek_26 : decode cX11_peek 26 = .ok (.invokestatic 71, 3) := by decide +kernel
theorem dX11_peek_29 : decode cX11_peek 29 = .ok (.ifCond .eq 20, 3) := by decide +kernel
theorem dX11_peek_32 : decode cX11_peek 32 = .ok (.aload 4, 2) := by decide +kernel
theorem dX11_peek_34 : decode cX11_peek 34 = .ok (.getfield 200, 3) := by decide +kernel
theorem dX11_peek_37 : decode cX11_peek 37 = .ok (.iload_n 2, 1) := by decide +kernel
theorem dX11_peek_38 : decode cX11_peek 38 = .ok (.iload_n 3, 1) := by decide +kernel
theorem dX11_peek_39 : decode cX11_peek 39 = .ok (.invokevirtual 213, 3) := by decide +kernel
theorem dX11_peek_42 : decode cX11_peek 42 = .ok (.ifCond .eq 7, 3) := by decide +kernel
theorem dX11_peek_45 : decode cX11_peek 45 = .ok (.iconst 1, 1) := by decide +kernel
theorem dX11_peek_46 : decode cX11_peek 46 = .ok (.goto 4, 3) := by decide +kernel
theorem dX11_peek_49 : decode cX11_peek 49 = .ok (.iconst 0, 1) := by decide +kernel
theorem dX11_peek_50 : decode cX11_peek 50 = .ok (.ireturn, 1) := by decide +kernel
theorem dX11_poke_0 : decode cX11_poke 0 = .ok (.aload_n 0, 1) := by decide +kernel
theorem dX11_poke_1 : decode cX11_poke 1 = .ok (.iload_n 1, 1) := by decide +kernel
theorem dX11_poke_2 : decode cX11_poke 2 = .ok (.invokevirtual 146, 3) := by decide +kernel
theorem dX11_poke_5 : decode cX11_poke 5 = .ok (.astore 5, 2) := by decide +kernel
theorem dX11_poke_7 : decode cX11_poke 7 = .ok (.aload 5, 2) := by decide +kernel
theorem dX11_poke_9 : decode cX11_poke 9 = .ok (.ifnull 41, 3) := by decide +kernel
theorem dX11_poke_12 : decode cX11_poke 12 = .ok (.iload_n 2, 1) := by decide +kernel
theorem dX11_poke_13 : decode cX11_poke 13 = .ok (.iconst 0, 1) := by decide +kernel
theorem dX11_poke_14 : decode cX11_poke 14 = .ok (.ldc 141, 2) := by decide +kernel
theorem dX11_poke_16 : decode cX11_poke 16 = .ok (.invokestatic 71, 3) := by decide +kernel
theorem dX11_poke_19 : decode cX11_poke 19 = .ok (.ifCond .eq 31, 3) := by decide +kernel
theorem dX11_poke_22 : decode cX11_poke 22 = .ok (.iload_n 3, 1) := by decide +kernel
theorem dX11_poke_23 : decode cX11_poke 23 = .ok (.iconst 1, 1) := by decide +kernel
theorem dX11_poke_24 : decode cX11_poke 24 = .ok (.iconst 4, 1) := by decide +kernel
theorem dX11_poke_25 : decode cX11_poke 25 = .ok (.invokestatic 71, 3) := by decide +kernel
theorem dX11_poke_28 : decode cX11_poke 28 = .ok (.ifCond .eq 22, 3) := by decide +kernel
theorem dX11_poke_31 : decode cX11_poke 31 = .ok (.aload 5, 2) := by decide +kernel
theorem dX11_poke_33 : decode cX11_poke 33 = .ok (.getfield 200, 3) := by decide +kernel
theorem dX11_poke_36 : decode cX11_poke 36 = .ok (.iload_n 2, 1) := by decide +kernel
theorem dX11_poke_37 : decode cX11_poke 37 = .ok (.iload_n 3, 1) := by decide +kernel
theorem dX11_poke_38 : decode cX11_poke 38 = .ok (.iload 4, 2) := by decide +kernel
theorem dX11_poke_40 : decode cX11_poke 40 = .ok (.invokevirtual 216, 3) := by decide +kernel
theorem dX11_poke_43 : decode cX11_poke 43 = .ok (.ifCond .eq 7, 3) := by decide +kernel
theorem dX11_poke_46 : decode cX11_poke 46 = .ok (.iconst 1, 1) := by decide +kernel
theorem dX11_poke_47 : decode cX11_poke 47 = .ok (.goto 4, 3) := by decide +kernel
theorem dX11_poke_50 : decode cX11_poke 50 = .ok (.iconst 0, 1) := by decide +kernel
theorem dX11_poke_51 : decode cX11_poke 51 = .ok (.ireturn, 1) := by decide +kernel
theorem dX11_memory_0 : decode cX11_memory 0 = .ok (.aload_n 0, 1) := by decide +kernel
theorem dX11_memory_1 : decode cX11_memory 1 = .ok (.iload_n 1, 1) := by decide +kernel
theorem dX11_memory_2 : decode cX11_memory 2 = .ok (.invokevirtual 146, 3) := by decide +kernel
theorem dX11_memory_5 : decode cX11_memory 5 = .ok (.astore_n 3, 1) := by decide +kernel
theorem dX11_memory_6 : decode cX11_memory 6 = .ok (.aload_n 3, 1) := by decide +kernel
theorem dX11_memory_7 : decode cX11_memory 7 = .ok (.ifnull 13, 3) := by decide +kernel
theorem dX11_memory_10 : decode cX11_memory 10 = .ok (.iload_n 2, 1) := by decide +kernel
theorem dX11_memory_11 : decode cX11_memory 11 = .ok (.iconst 0, 1) := by decide +kernel
theorem dX11_memory_12 : decode cX11_memory 12 = .ok (.bipush 63, 2) := by decide +kernel
theorem dX11_memory_14 : decode cX11_memory 14 = .ok (.invokestatic 71, 3) := by decide +kernel
theorem dX11_memory_17 : decode cX11_memory 17 = .ok (.ifCond .ne 5, 3) := by decide +kernel
theorem dX11_memory_20 : decode cX11_memory 20 = .ok (.iconst (-1), 1) := by decide +kernel
theorem dX11_memory_21 : decode cX11_memory 21 = .ok (.ireturn, 1) := by decide +kernel
theorem dX11_memory_22 : decode cX11_memory 22 = .ok (.aload_n 3, 1) := by decide +kernel
theorem dX11_memory_23 : decode cX11_memory 23 = .ok (.getfield 200, 3) := by decide +kernel
theorem dX11_memory_26 : decode cX11_memory 26 = .ok (.getfield 219, 3) := by decide +kernel
theorem dX11_memory_29 : decode cX11_memory 29 = .ok (.iload_n 2, 1) := by decide +kernel
theorem dX11_memory_30 : decode cX11_memory 30 = .ok (.iaload, 1) := by decide +kernel
theorem dX11_memory_31 : decode cX11_memory 31 = .ok (.ireturn, 1) := by decide +kernel
theorem dX11_store_0 : decode cX11_store 0 = .ok (.aload_n 0, 1) := by decide +kernel
theorem dX11_store_1 : decode cX11_store 1 = .ok (.iload_n 1, 1) := by decide +kernel
theorem dX11_store_2 : decode cX11_store 2 = .ok (.invokevirtual 146, 3) := by decide +kernel
theorem dX11_store_5 : decode cX11_store 5 = .ok (.astore 4, 2) := by decide +kernel
theorem dX11_store_7 : decode cX11_store 7 = .ok (.aload 4, 2) := by decide +kernel
theorem dX11_store_9 : decode cX11_store 9 = .ok (.ifnull 13, 3) := by decide +kernel
theorem dX11_store_12 : decode cX11_store 12 = .ok (.iload_n 2, 1) := by decide +kernel
theorem dX11_store_13 : decode cX11_store 13 = .ok (.iconst 0, 1) := by decide +kernel
theorem dX11_store_14 : decode cX11_store 14 = .ok (.bipush 63, 2) := by decide +kernel
theorem dX11_store_16 : decode cX11_store 16 = .ok (.invokestatic 71, 3) := by decide +kernel
theorem dX11_store_19 : decode cX11_store 19 = .ok (.ifCond .ne 5, 3) := by decide +kernel
theorem dX11_store_22 : decode cX11_store 22 = .ok (.iconst 0, 1) := by decide +kernel
theorem dX11_store_23 : decode cX11_store 23 = .ok (.ireturn, 1) := by decide +kernel
theorem dX11_store_24 : decode cX11_store 24 = .ok (.aload 4, 2) := by decide +kernel
theorem dX11_store_26 : decode cX11_store 26 = .ok (.getfield 200, 3) := by decide +kernel
theorem dX11_store_29 : decode cX11_store 29 = .ok (.getfield 219, 3) := by decide +kernel
theorem dX11_store_32 : decode cX11_store 32 = .ok (.iload_n 2, 1) := by decide +kernel
theorem dX11_store_33 : decode cX11_store 33 = .ok (.iload_n 3, 1) := by decide +kernel
theorem dX11_store_34 : decode cX11_store 34 = .ok (.sipush 255, 3) := by decide +kernel
theorem dX11_store_37 : decode cX11_store 37 = .ok (.iand, 1) := by decide +kernel
theorem dX11_store_38 : decode cX11_store 38 = .ok (.iastore, 1) := by decide +kernel
theorem dX11_store_39 : decode cX11_store 39 = .ok (.iconst 1, 1) := by decide +kernel
theorem dX11_store_40 : decode cX11_store 40 = .ok (.ireturn, 1) := by decide +kernel
theorem dX11_reply_0 : decode cX11_reply 0 = .ok (.aload_n 0, 1) := by decide +kernel
theorem dX11_reply_1 : decode cX11_reply 1 = .ok (.iload_n 1, 1) := by decide +kernel
theorem dX11_reply_2 : decode cX11_reply 2 = .ok (.invokevirtual 146, 3) := by decide +kernel
theorem dX11_reply_5 : decode cX11_reply 5 = .ok (.astore_n 3, 1) := by decide +kernel
theorem dX11_reply_6 : decode cX11_reply 6 = .ok (.aload_n 3, 1) := by decide +kernel
theorem dX11_reply_7 : decode cX11_reply 7 = .ok (.ifnonnull 5, 3) := by decide +kernel
theorem dX11_reply_10 : decode cX11_reply 10 = .ok (.iconst (-1), 1) := by decide +kernel
theorem dX11_reply_11 : decode cX11_reply 11 = .ok (.ireturn, 1) := by decide +kernel
theorem dX11_reply_12 : decode cX11_reply 12 = .ok (.aload_n 3, 1) := by decide +kernel
theorem dX11_reply_13 : decode cX11_reply 13 = .ok (.getfield 200, 3) := by decide +kernel
theorem dX11_reply_16 : decode cX11_reply 16 = .ok (.getfield 222, 3) := by decide +kernel
theorem dX11_reply_19 : decode cX11_reply 19 = .ok (.istore 4, 2) := by decide +kernel
theorem dX11_reply_21 : decode cX11_reply 21 = .ok (.iload_n 2, 1) := by decide +kernel
theorem dX11_reply_22 : decode cX11_reply 22 = .ok (.iconst (-1), 1) := by decide +kernel
theorem dX11_reply_23 : decode cX11_reply 23 = .ok (.if_icmp .ne 6, 3) := by decide +kernel
theorem dX11_reply_26 : decode cX11_reply 26 = .ok (.iload 4, 2) := by decide +kernel
theorem dX11_reply_28 : decode cX11_reply 28 = .ok (.ireturn, 1) := by decide +kernel
theorem dX11_reply_29 : decode cX11_reply 29 = .ok (.iload_n 2, 1) := by decide +kernel
theorem dX11_reply_30 : decode cX11_reply 30 = .ok (.iconst 0, 1) := by decide +kernel
theorem dX11_reply_31 : decode cX11_reply 31 = .ok (.iload 4, 2) := by decide +kernel
theorem dX11_reply_33 : decode cX11_reply 33 = .ok (.iconst 1, 1) := by decide +kernel
theorem dX11_reply_34 : decode cX11_reply 34 = .ok (.isub, 1) := by decide +kernel
theorem dX11_reply_35 : decode cX11_reply 35 = .ok (.invokestatic 71, 3) := by decide +kernel
theorem dX11_reply_38 : decode cX11_reply 38 = .ok (.ifCond .eq 15, 3) := by decide +kernel
theorem dX11_reply_41 : decode cX11_reply 41 = .ok (.aload_n 3, 1) := by decide +kernel
theorem dX11_reply_42 : decode cX11_reply 42 = .ok (.getfield 200, 3) := by decide +kernel
theorem dX11_reply_45 : decode cX11_reply 45 = .ok (.getfield 225, 3) := by decide +kernel
theorem dX11_reply_48 : decode cX11_reply 48 = .ok (.iload_n 2, 1) := by decide +kernel
theorem dX11_reply_49 : decode cX11_reply 49 = .ok (.iaload, 1) := by decide +kernel
theorem dX11_reply_50 : decode cX11_reply 50 = .ok (.goto 4, 3) := by decide +kernel
theorem dX11_reply_53 : decode cX11_reply 53 = .ok (.iconst (-1), 1) := by decide +kernel
theorem dX11_reply_54 : decode cX11_reply 54 = .ok (.ireturn, 1) := by decide +kernel
theorem dX11_connection_0 : decode cX11_connection 0 = .ok (.aload_n 0, 1) := by decide +kernel
theorem dX11_connection_1 : decode cX11_connection 1 = .ok (.iload_n 1, 1) := by decide +kernel
theorem dX11_connection_2 : decode cX11_connection 2 = .ok (.invokevirtual 146, 3) := by decide +kernel
theorem dX11_connection_5 : decode cX11_connection 5 = .ok (.astore_n 3, 1) := by decide +kernel
theorem dX11_connection_6 : decode cX11_connection 6 = .ok (.aload_n 3, 1) := by decide +kernel
theorem dX11_connection_7 : decode cX11_connection 7 = .ok (.ifnonnull 5, 3) := by decide +kernel
theorem dX11_connection_10 : decode cX11_connection 10 = .ok (.iconst (-1), 1) := by decide +kernel
theorem dX11_connection_11 : decode cX11_connection 11 = .ok (.ireturn, 1) := by decide +kernel
theorem dX11_connection_12 : decode cX11_connection 12 = .ok (.iload_n 2, 1) := by decide +kernel
theorem dX11_connection_13 : decode cX11_connection 13 = .ok (.tableswitch 63 7 11 #[35, 43, 48, 53, 58], 35) := by decide +kernel
theorem dX11_connection_48 : decode cX11_connection 48 = .ok (.aload_n 3, 1) := by decide +kernel
theorem dX11_connection_49 : decode cX11_connection 49 = .ok (.getfield 228, 3) := by decide +kernel
theorem dX11_connection_52 : decode cX11_connection 52 = .ok (.getfield 232, 3) := by decide +kernel
theorem dX11_connection_55 : decode cX11_connection 55 = .ok (.ireturn, 1) := by decide +kernel
theorem dX11_connection_56 : decode cX11_connection 56 = .ok (.aload_n 3, 1) := by decide +kernel
theorem dX11_connection_57 : decode cX11_connection 57 = .ok (.getfield 235, 3) := by decide +kernel
theorem dX11_connection_60 : decode cX11_connection 60 = .ok (.ireturn, 1) := by decide +kernel
theorem dX11_connection_61 : decode cX11_connection 61 = .ok (.aload_n 3, 1) := by decide +kernel
theorem dX11_connection_62 : decode cX11_connection 62 = .ok (.getfield 238, 3) := by decide +kernel
theorem dX11_connection_65 : decode cX11_connection 65 = .ok (.ireturn, 1) := by decide +kernel
theorem dX11_connection_66 : decode cX11_connection 66 = .ok (.aload_n 3, 1) := by decide +kernel
theorem dX11_connection_67 : decode cX11_connection 67 = .ok (.getfield 241, 3) := by decide +kernel
theorem dX11_connection_70 : decode cX11_connection 70 = .ok (.ireturn, 1) := by decide +kernel
theorem dX11_connection_71 : decode cX11_connection 71 = .ok (.aload_n 3, 1) := by decide +kernel
theorem dX11_connection_72 : decode cX11_connection 72 = .ok (.getfield 244, 3) := by decide +kernel
theorem dX11_connection_75 : decode cX11_connection 75 = .ok (.ireturn, 1) := by decide +kernel
theorem dX11_connection_76 : decode cX11_connection 76 = .ok (.aload_n 3, 1) := by decide +kernel
theorem dX11_connection_77 : decode cX11_connection 77 = .ok (.getfield 200, 3) := by decide +kernel
theorem dX11_connection_80 : decode cX11_connection 80 = .ok (.iload_n 2, 1) := by decide +kernel
theorem dX11_connection_81 : decode cX11_connection 81 = .ok (.invokevirtual 247, 3) := by decide +kernel
theorem dX11_connection_84 : decode cX11_connection 84 = .ok (.ireturn, 1) := by decide +kernel
theorem dX11_busy_0 : decode cX11_busy 0 = .ok (.aload_n 0, 1) := by decide +kernel
theorem dX11_busy_1 : decode cX11_busy 1 = .ok (.iload_n 1, 1) := by decide +kernel
theorem dX11_busy_2 : decode cX11_busy 2 = .ok (.invokevirtual 146, 3) := by decide +kernel
theorem dX11_busy_5 : decode cX11_busy 5 = .ok (.astore_n 3, 1) := by decide +kernel
theorem dX11_busy_6 : decode cX11_busy 6 = .ok (.aload_n 3, 1) := by decide +kernel
theorem dX11_busy_7 : decode cX11_busy 7 = .ok (.ifnull 13, 3) := by decide +kernel
theorem dX11_busy_10 : decode cX11_busy 10 = .ok (.iload_n 2, 1) := by decide +kernel
theorem dX11_busy_11 : decode cX11_busy 11 = .ok (.iconst 0, 1) := by decide +kernel
theorem dX11_busy_12 : decode cX11_busy 12 = .ok (.bipush 20, 2) := by decide +kernel
theorem dX11_busy_14 : decode cX11_busy 14 = .ok (.invokestatic 71, 3) := by decide +kernel
theorem dX11_busy_17 : decode cX11_busy 17 = .ok (.ifCond .ne 5, 3) := by decide +kernel
theorem dX11_busy_20 : decode cX11_busy 20 = .ok (.iconst 0, 1) := by decide +kernel
theorem dX11_busy_21 : decode cX11_busy 21 = .ok (.ireturn, 1) := by decide +kernel
theorem dX11_busy_22 : decode cX11_busy 22 = .ok (.aload_n 3, 1) := by decide +kernel
theorem dX11_busy_23 : decode cX11_busy 23 = .ok (.iload_n 2, 1) := by decide +kernel
theorem dX11_busy_24 : decode cX11_busy 24 = .ok (.putfield 238, 3) := by decide +kernel
theorem dX11_busy_27 : decode cX11_busy 27 = .ok (.iconst 1, 1) := by decide +kernel
theorem dX11_busy_28 : decode cX11_busy 28 = .ok (.ireturn, 1) := by decide +kernel
theorem dX11_feed_0 : decode cX11_feed 0 = .ok (.aload_n 0, 1) := by decide +kernel
theorem dX11_feed_1 : decode cX11_feed 1 = .ok (.getfield 250, 3) := by decide +kernel
theorem dX11_feed_4 : decode cX11_feed 4 = .ok (.bipush 40, 2) := by decide +kernel
theorem dX11_feed_6 : decode cX11_feed 6 = .ok (.if_icmp .le 5, 3) := by decide +kernel
theorem dX11_feed_9 : decode cX11_feed 9 = .ok (.iconst (-1), 1) := by decide +kernel
theorem dX11_feed_10 : decode cX11_feed 10 = .ok (.ireturn, 1) := by decide +kernel
theorem dX11_feed_11 : decode cX11_feed 11 = .ok (.aload_n 0, 1) := by decide +kernel
theorem dX11_feed_12 : decode cX11_feed 12 = .ok (.iload_n 1, 1) := by decide +kernel
theorem dX11_feed_13 : decode cX11_feed 13 = .ok (.invokevirtual 253, 3) := by decide +kernel
theorem dX11_feed_16 : decode cX11_feed 16 = .ok (.aload_n 0, 1) := by decide +kernel
theorem dX11_feed_17 : decode cX11_feed 17 = .ok (.iload_n 2, 1) := by decide +kernel
theorem dX11_feed_18 : decode cX11_feed 18 = .ok (.invokevirtual 253, 3) := by decide +kernel
theorem dX11_feed_21 : decode cX11_feed 21 = .ok (.aload_n 0, 1) := by decide +kernel
theorem dX11_feed_22 : decode cX11_feed 22 = .ok (.iload_n 3, 1) := by decide +kernel
theorem dX11_feed_23 : decode cX11_feed 23 = .ok (.invokevirtual 253, 3) := by decide +kernel
theorem dX11_feed_26 : decode cX11_feed 26 = .ok (.aload_n 0, 1) := by decide +kernel
theorem dX11_feed_27 : decode cX11_feed 27 = .ok (.iload 4, 2) := by decide +kernel
theorem dX11_feed_29 : decode cX11_feed 29 = .ok (.invokevirtual 253, 3) := by decide +kernel
theorem dX11_feed_32 : decode cX11_feed 32 = .ok (.aload_n 0, 1) := by decide +kernel
theorem dX11_feed_33 : decode cX11_feed 33 = .ok (.iload 5, 2) := by decide +kernel
theorem dX11_feed_35 : decode cX11_feed 35 = .ok (.invokevirtual 253, 3) := by decide +kernel
theorem dX11_feed_38 : decode cX11_feed 38 = .ok (.aload_n 0, 1) := by decide +kernel
theorem dX11_feed_39 : decode cX11_feed 39 = .ok (.getfield 250, 3) := by decide +kernel
theorem dX11_feed_42 : decode cX11_feed 42 = .ok (.ireturn, 1) := by decide +kernel
theorem dX11_feedNumber_0 : decode cX11_feedNumber 0 = .ok (.bipush 24, 2) := by decide +kernel
theorem dX11_feedNumber_2 : decode cX11_feedNumber 2 = .ok (.istore_n 2, 1) := by decide +kernel
theorem dX11_feedNumber_3 : decode cX11_feedNumber 3 = .ok (.iload_n 2, 1) := by decide +kernel
theorem dX11_feedNumber_4 : decode cX11_feedNumber 4 = .ok (.ifCond .lt 44, 3) := by decide +kernel
theorem dX11_feedNumber_7 : decode cX11_feedNumber 7 = .ok (.aload_n 0, 1) := by decide +kernel
theorem dX11_feedNumber_8 : decode cX11_feedNumber 8 = .ok (.getfield 250, 3) := by decide +kernel
theorem dX11_feedNumber_11 : decode cX11_feedNumber 11 = .ok (.bipush 60, 2) := by decide +kernel
theorem dX11_feedNumber_13 : decode cX11_feedNumber 13 = .ok (.if_icmp .ge 35, 3) := by decide +kernel
theorem dX11_feedNumber_16 : decode cX11_feedNumber 16 = .ok (.aload_n 0, 1) := by decide +kernel
theorem dX11_feedNumber_17 : decode cX11_feedNumber 17 = .ok (.getfield 47, 3) := by decide +kernel
theorem dX11_feedNumber_20 : decode cX11_feedNumber 20 = .ok (.aload_n 0, 1) := by decide +kernel
theorem dX11_feedNumber_21 : decode cX11_feedNumber 21 = .ok (.getfield 250, 3) := by decide +kernel
theorem dX11_feedNumber_24 : decode cX11_feedNumber 24 = .ok (.iload_n 1, 1) := by decide +kernel
theorem dX11_feedNumber_25 : decode cX11_feedNumber 25 = .ok (.iload_n 2, 1) := by decide +kernel
theorem dX11_feedNumber_26 : decode cX11_feedNumber 26 = .ok (.ishr, 1) := by decide +kernel
theorem dX11_feedNumber_27 : decode cX11_feedNumber 27 = .ok (.sipush 255, 3) := by decide +kernel
theorem dX11_feedNumber_30 : decode cX11_feedNumber 30 = .ok (.iand, 1) := by decide +kernel
theorem dX11_feedNumber_31 : decode cX11_feedNumber 31 = .ok (.iastore, 1) := by decide +kernel
theorem dX11_feedNumber_32 : decode cX11_feedNumber 32 = .ok (.aload_n 0, 1) := by decide +kernel
theorem dX11_feedNumber_33 : decode cX11_feedNumber 33 = .ok (.dup, 1) := by decide +kernel
theorem dX11_feedNumber_34 : decode cX11_feedNumber 34 = .ok (.getfield 250, 3) := by decide +kernel
theorem dX11_feedNumber_37 : decode cX11_feedNumber 37 = .ok (.iconst 1, 1) := by decide +kernel
theorem dX11_feedNumber_38 : decode cX11_feedNumber 38 = .ok (.iadd, 1) := by decide +kernel
theorem dX11_feedNumber_39 : decode cX11_feedNumber 39 = .ok (.putfield 250, 3) := by decide +kernel
theorem dX11_feedNumber_42 : decode cX11_feedNumber 42 = .ok (.iinc 2 (-8), 3) := by decide +kernel
theorem dX11_feedNumber_45 : decode cX11_feedNumber 45 = .ok (.goto (-42), 3) := by decide +kernel
theorem dX11_feedNumber_48 : decode cX11_feedNumber 48 = .ok (.return_, 1) := by decide +kernel
theorem dX11_end_0 : decode cX11_end 0 = .ok (.iload_n 1, 1) := by decide +kernel
theorem dX11_end_1 : decode cX11_end 1 = .ok (.ifCond .lt 11, 3) := by decide +kernel
theorem dX11_end_4 : decode cX11_end 4 = .ok (.iload_n 1, 1) := by decide +kernel
theorem dX11_end_5 : decode cX11_end 5 = .ok (.aload_n 0, 1) := by decide +kernel
theorem dX11_end_6 : decode cX11_end 6 = .ok (.getfield 250, 3) := by decide +kernel
theorem dX11_end_9 : decode cX11_end 9 = .ok (.if_icmp .le 5, 3) := by decide +kernel
theorem dX11_end_12 : decode cX11_end 12 = .ok (.iconst (-1), 1) := by decide +kernel
theorem dX11_end_13 : decode cX11_end 13 = .ok (.ireturn, 1) := by decide +kernel
theorem dX11_end_14 : decode cX11_end 14 = .ok (.aload_n 0, 1) := by decide +kernel
theorem dX11_end_15 : decode cX11_end 15 = .ok (.iload_n 1, 1) := by decide +kernel
theorem dX11_end_16 : decode cX11_end 16 = .ok (.putfield 250, 3) := by decide +kernel
theorem dX11_end_19 : decode cX11_end 19 = .ok (.iload_n 1, 1) := by decide +kernel
theorem dX11_end_20 : decode cX11_end 20 = .ok (.ireturn, 1) := by decide +kernel
theorem dX11_raw_0 : decode cX11_raw 0 = .ok (.aload_n 0, 1) := by decide +kernel
theorem dX11_raw_1 : decode cX11_raw 1 = .ok (.iload_n 1, 1) := by decide +kernel
theorem dX11_raw_2 : decode cX11_raw 2 = .ok (.invokevirtual 82, 3) := by decide +kernel
theorem dX11_raw_5 : decode cX11_raw 5 = .ok (.astore_n 2, 1) := by decide +kernel
theorem dX11_raw_6 : decode cX11_raw 6 = .ok (.aload_n 2, 1) := by decide +kernel
theorem dX11_raw_7 : decode cX11_raw 7 = .ok (.ifnull 17, 3) := by decide +kernel
theorem dX11_raw_10 : decode cX11_raw 10 = .ok (.aload_n 0, 1) := by decide +kernel
theorem dX11_raw_11 : decode cX11_raw 11 = .ok (.getfield 250, 3) := by decide +kernel
theorem dX11_raw_14 : decode cX11_raw 14 = .ok (.bipush 8, 2) := by decide +kernel
theorem dX11_raw_16 : decode cX11_raw 16 = .ok (.bipush 23, 2) := by decide +kernel
theorem dX11_raw_18 : decode cX11_raw 18 = .ok (.invokestatic 71, 3) := by decide +kernel
theorem dX11_raw_21 : decode cX11_raw 21 = .ok (.ifCond .ne 5, 3) := by decide +kernel
theorem dX11_raw_24 : decode cX11_raw 24 = .ok (.iconst (-1), 1) := by decide +kernel
theorem dX11_raw_25 : decode cX11_raw 25 = .ok (.ireturn, 1) := by decide +kernel
theorem dX11_raw_26 : decode cX11_raw 26 = .ok (.aload_n 2, 1) := by decide +kernel
theorem dX11_raw_27 : decode cX11_raw 27 = .ok (.getfield 257, 3) := by decide +kernel
theorem dX11_raw_30 : decode cX11_raw 30 = .ok (.astore_n 3, 1) := by decide +kernel
theorem dX11_raw_31 : decode cX11_raw 31 = .ok (.aload_n 3, 1) := by decide +kernel
theorem dX11_raw_32 : decode cX11_raw 32 = .ok (.invokevirtual 260, 3) := by decide +kernel
theorem dX11_raw_35 : decode cX11_raw 35 = .ok (.ifCond .eq 6, 3) := by decide +kernel
theorem dX11_raw_38 : decode cX11_raw 38 = .ok (.bipush (-2), 2) := by decide +kernel
theorem dX11_raw_40 : decode cX11_raw 40 = .ok (.ireturn, 1) := by decide +kernel
theorem dX11_raw_41 : decode cX11_raw 41 = .ok (.aload_n 0, 1) := by decide +kernel
theorem dX11_raw_42 : decode cX11_raw 42 = .ok (.getfield 47, 3) := by decide +kernel
theorem dX11_raw_45 : decode cX11_raw 45 = .ok (.iconst 0, 1) := by decide +kernel
theorem dX11_raw_46 : decode cX11_raw 46 = .ok (.aload_n 0, 1) := by decide +kernel
theorem dX11_raw_47 : decode cX11_raw 47 = .ok (.getfield 58, 3) := by decide +kernel
theorem dX11_raw_50 : decode cX11_raw 50 = .ok (.getfield 264, 3) := by decide +kernel
theorem dX11_raw_53 : decode cX11_raw 53 = .ok (.iconst 0, 1) := by decide +kernel
theorem dX11_raw_54 : decode cX11_raw 54 = .ok (.aload_n 0, 1) := by decide +kernel
theorem dX11_raw_55 : decode cX11_raw 55 = .ok (.getfield 250, 3) := by decide +kernel
theorem dX11_raw_58 : decode cX11_raw 58 = .ok (.invokestatic 267, 3) := by decide +kernel
theorem dX11_raw_61 : decode cX11_raw 61 = .ok (.aload_n 0, 1) := by decide +kernel
theorem dX11_raw_62 : decode cX11_raw 62 = .ok (.getfield 58, 3) := by decide +kernel
theorem dX11_raw_65 : decode cX11_raw 65 = .ok (.aload_n 0, 1) := by decide +kernel
theorem dX11_raw_66 : decode cX11_raw 66 = .ok (.getfield 250, 3) := by decide +kernel
theorem dX11_raw_69 : decode cX11_raw 69 = .ok (.putfield 273, 3) := by decide +kernel
theorem dX11_raw_72 : decode cX11_raw 72 = .ok (.aload_n 3, 1) := by decide +kernel
theorem dX11_raw_73 : decode cX11_raw 73 = .ok (.aload_n 0, 1) := by decide +kernel
theorem dX11_raw_74 : decode cX11_raw 74 = .ok (.getfield 58, 3) := by decide +kernel
theorem dX11_raw_77 : decode cX11_raw 77 = .ok (.invokevirtual 276, 3) := by decide +kernel
theorem dX11_raw_80 : decode cX11_raw 80 = .ok (.pop, 1) := by decide +kernel
theorem dX11_raw_81 : decode cX11_raw 81 = .ok (.aload_n 0, 1) := by decide +kernel
theorem dX11_raw_82 : decode cX11_raw 82 = .ok (.iconst 0, 1) := by decide +kernel
theorem dX11_raw_83 : decode cX11_raw 83 = .ok (.putfield 250, 3) := by decide +kernel
theorem dX11_raw_86 : decode cX11_raw 86 = .ok (.aload_n 3, 1) := by decide +kernel
theorem dX11_raw_87 : decode cX11_raw 87 = .ok (.getfield 232, 3) := by decide +kernel
theorem dX11_raw_90 : decode cX11_raw 90 = .ok (.ireturn, 1) := by decide +kernel
theorem dX11_harm_0 : decode cX11_harm 0 = .ok (.iload_n 1, 1) := by decide +kernel
theorem dX11_harm_1 : decode cX11_harm 1 = .ok (.iconst 0, 1) := by decide +kernel
theorem dX11_harm_2 : decode cX11_harm 2 = .ok (.sipush 500, 3) := by decide +kernel
theorem dX11_harm_5 : decode cX11_harm 5 = .ok (.invokestatic 71, 3) := by decide +kernel
theorem dX11_harm_8 : decode cX11_harm 8 = .ok (.ifCond .eq 24, 3) := by decide +kernel
theorem dX11_harm_11 : decode cX11_harm 11 = .ok (.iload_n 2, 1) := by decide +kernel
theorem dX11_harm_12 : decode cX11_harm 12 = .ok (.iconst 0, 1) := by decide +kernel
theorem dX11_harm_13 : decode cX11_harm 13 = .ok (.bipush 22, 2) := by decide +kernel
theorem dX11_harm_15 : decode cX11_harm 15 = .ok (.invokestatic 71, 3) := by decide +kernel
theorem dX11_harm_18 : decode cX11_harm 18 = .ok (.ifCond .eq 14, 3) := by decide +kernel
theorem dX11_harm_21 : decode cX11_harm 21 = .ok (.iload_n 3, 1) := by decide +kernel
theorem dX11_harm_22 : decode cX11_harm 22 = .ok (.iconst 1, 1) := by decide +kernel
theorem dX11_harm_23 : decode cX11_harm 23 = .ok (.sipush 255, 3) := by decide +kernel
theorem dX11_harm_26 : decode cX11_harm 26 = .ok (.invokestatic 71, 3) := by decide +kernel
theorem dX11_harm_29 : decode cX11_harm 29 = .ok (.ifCond .ne 5, 3) := by decide +kernel
theorem dX11_harm_32 : decode cX11_harm 32 = .ok (.iconst 0, 1) := by decide +kernel
theorem dX11_harm_33 : decode cX11_harm 33 = .ok (.ireturn, 1) := by decide +kernel
theorem dX11_harm_34 : decode cX11_harm 34 = .ok (.aload_n 0, 1) := by decide +kernel
theorem dX11_harm_35 : decode cX11_harm 35 = .ok (.getfield 43, 3) := by decide +kernel
theorem dX11_harm_38 : decode cX11_harm 38 = .ok (.aload_n 0, 1) := by decide +kernel
theorem dX11_harm_39 : decode cX11_harm 39 = .ok (.getfield 10, 3) := by decide +kernel
theorem dX11_harm_42 : decode cX11_harm 42 = .ok (.getfield 280, 3) := by decide +kernel
theorem dX11_harm_45 : decode cX11_harm 45 = .ok (.iload_n 1, 1) := by decide +kernel
theorem dX11_harm_46 : decode cX11_harm 46 = .ok (.iadd, 1) := by decide +kernel
theorem dX11_harm_47 : decode cX11_harm 47 = .ok (.iload_n 2, 1) := by decide +kernel
theorem dX11_harm_48 : decode cX11_harm 48 = .ok (.iload_n 3, 1) := by decide +kernel
theorem dX11_harm_49 : decode cX11_harm 49 = .ok (.invokevirtual 283, 3) := by decide +kernel
theorem dX11_harm_52 : decode cX11_harm 52 = .ok (.ireturn, 1) := by decide +kernel
theorem dX11_step_0 : decode cX11_step 0 = .ok (.iload_n 1, 1) := by decide +kernel
theorem dX11_step_1 : decode cX11_step 1 = .ok (.iconst 1, 1) := by decide +kernel
theorem dX11_step_2 : decode cX11_step 2 = .ok (.sipush 200, 3) := by decide +kernel
theorem dX11_step_5 : decode cX11_step 5 = .ok (.invokestatic 71, 3) := by decide +kernel
theorem dX11_step_8 : decode cX11_step 8 = .ok (.ifCond .ne 14, 3) := by decide +kernel
theorem dX11_step_11 : decode cX11_step 11 = .ok (.new 285, 3) := by decide +kernel
theorem dX11_step_14 : decode cX11_step 14 = .ok (.dup, 1) := by decide +kernel
theorem dX11_step_15 : decode cX11_step 15 = .ok (.ldc_w 287, 3) := by decide +kernel
theorem dX11_step_18 : decode cX11_step 18 = .ok (.invokespecial 289, 3) := by decide +kernel
theorem dX11_step_21 : decode cX11_step 21 = .ok (.athrow, 1) := by decide +kernel
theorem dX11_step_22 : decode cX11_step 22 = .ok (.aload_n 0, 1) := by decide +kernel
theorem dX11_step_23 : decode cX11_step 23 = .ok (.getfield 10, 3) := by decide +kernel
theorem dX11_step_26 : decode cX11_step 26 = .ok (.getfield 280, 3) := by decide +kernel
theorem dX11_step_29 : decode cX11_step 29 = .ok (.istore_n 2, 1) := by decide +kernel
theorem dX11_step_30 : decode cX11_step 30 = .ok (.iconst 0, 1) := by decide +kernel
theorem dX11_step_31 : decode cX11_step 31 = .ok (.istore_n 3, 1) := by decide +kernel
theorem dX11_step_32 : decode cX11_step 32 = .ok (.iload_n 3, 1) := by decide +kernel
theorem dX11_step_33 : decode cX11_step 33 = .ok (.iload_n 1, 1) := by decide +kernel
theorem dX11_step_34 : decode cX11_step 34 = .ok (.if_icmp .ge 106, 3) := by decide +kernel
theorem dX11_step_37 : decode cX11_step 37 = .ok (.aload_n 0, 1) := by decide +kernel
theorem dX11_step_38 : decode cX11_step 38 = .ok (.getfield 10, 3) := by decide +kernel
theorem dX11_step_41 : decode cX11_step 41 = .ok (.dup, 1) := by decide +kernel
theorem dX11_step_42 : decode cX11_step 42 = .ok (.getfield 292, 3) := by decide +kernel
theorem dX11_step_45 : decode cX11_step 45 = .ok (.iconst 1, 1) := by decide +kernel
theorem dX11_step_46 : decode cX11_step 46 = .ok (.iadd, 1) := by decide +kernel
theorem dX11_step_47 : decode cX11_step 47 = .ok (.putfield 292, 3) := by decide +kernel
theorem dX11_step_50 : decode cX11_step 50 = .ok (.iconst 0, 1) := by decide +kernel
theorem dX11_step_51 : decode cX11_step 51 = .ok (.istore 4, 2) := by decide +kernel
theorem dX11_step_53 : decode cX11_step 53 = .ok (.iload 4, 2) := by decide +kernel
theorem dX11_step_55 : decode cX11_step 55 = .ok (.aload_n 0, 1) := by decide +kernel
theorem dX11_step_56 : decode cX11_step 56 = .ok (.getfield 68, 3) := by decide +kernel
theorem dX11_step_59 : decode cX11_step 59 = .ok (.if_icmp .ge 44, 3) := by decide +kernel
theorem dX11_step_62 : decode cX11_step 62 = .ok (.aload_n 0, 1) := by decide +kernel
theorem dX11_step_63 : decode cX11_step 63 = .ok (.getfield 10, 3) := by decide +kernel
theorem dX11_step_66 : decode cX11_step 66 = .ok (.getfield 295, 3) := by decide +kernel
theorem dX11_step_69 : decode cX11_step 69 = .ok (.ifCond .le 34, 3) := by decide +kernel
theorem dX11_step_72 : decode cX11_step 72 = .ok (.aload_n 0, 1) := by decide +kernel
theorem dX11_step_73 : decode cX11_step 73 = .ok (.getfield 18, 3) := by decide +kernel
theorem dX11_step_76 : decode cX11_step 76 = .ok (.iload 4, 2) := by decide +kernel
theorem dX11_step_78 : decode cX11_step 78 = .ok (.aaload, 1) := by decide +kernel
theorem dX11_step_79 : decode cX11_step 79 = .ok (.invokevirtual 298, 3) := by decide +kernel
theorem dX11_step_82 : decode cX11_step 82 = .ok (.astore 5, 2) := by decide +kernel
theorem dX11_step_84 : decode cX11_step 84 = .ok (.aload 5, 2) := by decide +kernel
theorem dX11_step_86 : decode cX11_step 86 = .ok (.ifnull 11, 3) := by decide +kernel
theorem dX11_step_89 : decode cX11_step 89 = .ok (.aload_n 0, 1) := by decide +kernel
theorem dX11_step_90 : decode cX11_step 90 = .ok (.iload 4, 2) := by decide +kernel
theorem dX11_step_92 : decode cX11_step 92 = .ok (.aload 5, 2) := by decide +kernel
theorem dX11_step_94 : decode cX11_step 94 = .ok (.invokevirtual 302, 3) := by decide +kernel
theorem dX11_step_97 : decode cX11_step 97 = .ok (.iinc 4 1, 3) := by decide +kernel
theorem dX11_step_100 : decode cX11_step 100 = .ok (.goto (-47), 3) := by decide +kernel
theorem dX11_step_103 : decode cX11_step 103 = .ok (.iconst 0, 1) := by decide +kernel
theorem dX11_step_104 : decode cX11_step 104 = .ok (.istore 4, 2) := by decide +kernel
theorem dX11_step_106 : decode cX11_step 106 = .ok (.iload 4, 2) := by decide +kernel
theorem dX11_step_108 : decode cX11_step 108 = .ok (.aload_n 0, 1) := by decide +kernel
theorem dX11_step_109 : decode cX11_step 109 = .ok (.getfield 86, 3) := by decide +kernel
theorem dX11_step_112 : decode cX11_step 112 = .ok (.if_icmp .ge 22, 3) := by decide +kernel
theorem dX11_step_115 : decode cX11_step 115 = .ok (.aload_n 0, 1) := by decide +kernel
theorem dX11_step_116 : decode cX11_step 116 = .ok (.getfield 24, 3) := by decide +kernel
theorem dX11_step_119 : decode cX11_step 119 = .ok (.iload 4, 2) := by decide +kernel
theorem dX11_step_121 : decode cX11_step 121 = .ok (.aaload, 1) := by decide +kernel
theorem dX11_step_122 : decode cX11_step 122 = .ok (.getfield 200, 3) := by decide +kernel
theorem dX11_step_125 : decode cX11_step 125 = .ok (.invokevirtual 306, 3) := by decide +kernel
theorem dX11_step_128 : decode cX11_step 128 = .ok (.iinc 4 1, 3) := by decide +kernel
theorem dX11_step_131 : decode cX11_step 131 = .ok (.goto (-25), 3) := by decide +kernel
theorem dX11_step_134 : decode cX11_step 134 = .ok (.iinc 3 1, 3) := by decide +kernel
theorem dX11_step_137 : decode cX11_step 137 = .ok (.goto (-105), 3) := by decide +kernel
theorem dX11_step_140 : decode cX11_step 140 = .ok (.aload_n 0, 1) := by decide +kernel
theorem dX11_step_141 : decode cX11_step 141 = .ok (.getfield 10, 3) := by decide +kernel
theorem dX11_step_144 : decode cX11_step 144 = .ok (.getfield 280, 3) := by decide +kernel
theorem dX11_step_147 : decode cX11_step 147 = .ok (.iload_n 2, 1) := by decide +kernel
theorem dX11_step_148 : decode cX11_step 148 = .ok (.isub, 1) := by decide +kernel
theorem dX11_step_149 : decode cX11_step 149 = .ok (.ireturn, 1) := by decide +kernel
theorem dX11_sent_0 : decode cX11_sent 0 = .ok (.aload_n 0, 1) := by decide +kernel
theorem dX11_sent_1 : decode cX11_sent 1 = .ok (.getfield 10, 3) := by decide +kernel
theorem dX11_sent_4 : decode cX11_sent 4 = .ok (.getfield 280, 3) := by decide +kernel
theorem dX11_sent_7 : decode cX11_sent 7 = .ok (.ifCond .le 16, 3) := by decide +kernel
theorem dX11_sent_10 : decode cX11_sent 10 = .ok (.iload_n 1, 1) := by decide +kernel
theorem dX11_sent_11 : decode cX11_sent 11 = .ok (.iconst (-1), 1) := by decide +kernel
theorem dX11_sent_12 : decode cX11_sent 12 = .ok (.if_icmp .ne 11, 3) := by decide +kernel
theorem dX11_sent_15 : decode cX11_sent 15 = .ok (.aload_n 0, 1) := by decide +kernel
theorem dX11_sent_16 : decode cX11_sent 16 = .ok (.getfield 54, 3) := by decide +kernel
theorem dX11_sent_19 : decode cX11_sent 19 = .ok (.getfield 273, 3) := by decide +kernel
theorem dX11_sent_22 : decode cX11_sent 22 = .ok (.ireturn, 1) := by decide +kernel
theorem dX11_sent_23 : decode cX11_sent 23 = .ok (.iload_n 1, 1) := by decide +kernel
theorem dX11_sent_24 : decode cX11_sent 24 = .ok (.iconst 0, 1) := by decide +kernel
theorem dX11_sent_25 : decode cX11_sent 25 = .ok (.aload_n 0, 1) := by decide +kernel
theorem dX11_sent_26 : decode cX11_sent 26 = .ok (.getfield 54, 3) := by decide +kernel
theorem dX11_sent_29 : decode cX11_sent 29 = .ok (.getfield 273, 3) := by decide +kernel
theorem dX11_sent_32 : decode cX11_sent 32 = .ok (.iconst 1, 1) := by decide +kernel
theorem dX11_sent_33 : decode cX11_sent 33 = .ok (.isub, 1) := by decide +kernel
theorem dX11_sent_34 : decode cX11_sent 34 = .ok (.invokestatic 71, 3) := by decide +kernel
theorem dX11_sent_37 : decode cX11_sent 37 = .ok (.ifCond .ne 14, 3) := by decide +kernel
theorem dX11_sent_40 : decode cX11_sent 40 = .ok (.new 309, 3) := by decide +kernel
theorem dX11_sent_43 : decode cX11_sent 43 = .ok (.dup, 1) := by decide +kernel
theorem dX11_sent_44 : decode cX11_sent 44 = .ok (.ldc_w 311, 3) := by decide +kernel
theorem dX11_sent_47 : decode cX11_sent 47 = .ok (.invokespecial 313, 3) := by decide +kernel
theorem dX11_sent_50 : decode cX11_sent 50 = .ok (.athrow, 1) := by decide +kernel
theorem dX11_sent_51 : decode cX11_sent 51 = .ok (.aload_n 0, 1) := by decide +kernel
theorem dX11_sent_52 : decode cX11_sent 52 = .ok (.getfield 54, 3) := by decide +kernel
theorem dX11_sent_55 : decode cX11_sent 55 = .ok (.getfield 264, 3) := by decide +kernel
theorem dX11_sent_58 : decode cX11_sent 58 = .ok (.iload_n 1, 1) := by decide +kernel
theorem dX11_sent_59 : decode cX11_sent 59 = .ok (.iaload, 1) := by decide +kernel
theorem dX11_sent_60 : decode cX11_sent 60 = .ok (.ireturn, 1) := by decide +kernel
theorem dX11_count_0 : decode cX11_count 0 = .ok (.iload_n 1, 1) := by decide +kernel
theorem dX11_count_1 : decode cX11_count 1 = .ok (.tableswitch 165 0 13 #[71, 79, 84, 89, 94, 102, 110, 118, 126, 134, 139, 144, 152, 160], 71) := by decide +kernel
theorem dX11_count_72 : decode cX11_count 72 = .ok (.aload_n 0, 1) := by decide +kernel
theorem dX11_count_73 : decode cX11_count 73 = .ok (.getfield 10, 3) := by decide +kernel
theorem dX11_count_76 : decode cX11_count 76 = .ok (.getfield 292, 3) := by decide +kernel
theorem dX11_count_79 : decode cX11_count 79 = .ok (.ireturn, 1) := by decide +kernel
theorem dX11_count_80 : decode cX11_count 80 = .ok (.aload_n 0, 1) := by decide +kernel
theorem dX11_count_81 : decode cX11_count 81 = .ok (.getfield 68, 3) := by decide +kernel
theorem dX11_count_84 : decode cX11_count 84 = .ok (.ireturn, 1) := by decide +kernel
theorem dX11_count_85 : decode cX11_count 85 = .ok (.aload_n 0, 1) := by decide +kernel
theorem dX11_count_86 : decode cX11_count 86 = .ok (.getfield 86, 3) := by decide +kernel
theorem dX11_count_89 : decode cX11_count 89 = .ok (.ireturn, 1) := by decide +kernel
theorem dX11_count_90 : decode cX11_count 90 = .ok (.aload_n 0, 1) := by decide +kernel
theorem dX11_count_91 : decode cX11_count 91 = .ok (.getfield 113, 3) := by decide +kernel
theorem dX11_count_94 : decode cX11_count 94 = .ok (.ireturn, 1) := by decide +kernel
theorem dX11_count_95 : decode cX11_count 95 = .ok (.aload_n 0, 1) := by decide +kernel
theorem dX11_count_96 : decode cX11_count 96 = .ok (.getfield 10, 3) := by decide +kernel
theorem dX11_count_99 : decode cX11_count 99 = .ok (.getfield 280, 3) := by decide +kernel
theorem dX11_count_102 : decode cX11_count 102 = .ok (.ireturn, 1) := by decide +kernel
theorem dX11_count_103 : decode cX11_count 103 = .ok (.aload_n 0, 1) := by decide +kernel
theorem dX11_count_104 : decode cX11_count 104 = .ok (.getfield 10, 3) := by decide +kernel
theorem dX11_count_107 : decode cX11_count 107 = .ok (.getfield 314, 3) := by decide +kernel
theorem dX11_count_110 : decode cX11_count 110 = .ok (.ireturn, 1) := by decide +kernel
theorem dX11_count_111 : decode cX11_count 111 = .ok (.aload_n 0, 1) := by decide +kernel
theorem dX11_count_112 : decode cX11_count 112 = .ok (.getfield 10, 3) := by decide +kernel
theorem dX11_count_115 : decode cX11_count 115 = .ok (.getfield 317, 3) := by decide +kernel
theorem dX11_count_118 : decode cX11_count 118 = .ok (.ireturn, 1) := by decide +kernel
theorem dX11_count_119 : decode cX11_count 119 = .ok (.aload_n 0, 1) := by decide +kernel
theorem dX11_count_120 : decode cX11_count 120 = .ok (.getfield 10, 3) := by decide +kernel
theorem dX11_count_123 : decode cX11_count 123 = .ok (.getfield 320, 3) := by decide +kernel
theorem dX11_count_126 : decode cX11_count 126 = .ok (.ireturn, 1) := by decide +kernel
theorem dX11_count_127 : decode cX11_count 127 = .ok (.aload_n 0, 1) := by decide +kernel
theorem dX11_count_128 : decode cX11_count 128 = .ok (.getfield 10, 3) := by decide +kernel
theorem dX11_count_131 : decode cX11_count 131 = .ok (.getfield 323, 3) := by decide +kernel
theorem dX11_count_134 : decode cX11_count 134 = .ok (.ireturn, 1) := by decide +kernel
theorem dX11_count_135 : decode cX11_count 135 = .ok (.aload_n 0, 1) := by decide +kernel
theorem dX11_count_136 : decode cX11_count 136 = .ok (.getfield 65, 3) := by decide +kernel
theorem dX11_count_139 : decode cX11_count 139 = .ok (.ireturn, 1) := by decide +kernel
theorem dX11_count_140 : decode cX11_count 140 = .ok (.aload_n 0, 1) := by decide +kernel
theorem dX11_count_141 : decode cX11_count 141 = .ok (.getfield 61, 3) := by decide +kernel
theorem dX11_count_144 : decode cX11_count 144 = .ok (.ireturn, 1) := by decide +kernel
theorem dX11_count_145 : decode cX11_count 145 = .ok (.aload_n 0, 1) := by decide +kernel
theorem dX11_count_146 : decode cX11_count 146 = .ok (.getfield 10, 3) := by decide +kernel
theorem dX11_count_149 : decode cX11_count 149 = .ok (.getfield 295, 3) := by decide +kernel
theorem dX11_count_152 : decode cX11_count 152 = .ok (.ireturn, 1) := by decide +kernel
theorem dX11_count_153 : decode cX11_count 153 = .ok (.aload_n 0, 1) := by decide +kernel
theorem dX11_count_154 : decode cX11_count 154 = .ok (.getfield 43, 3) := by decide +kernel
theorem dX11_count_157 : decode cX11_count 157 = .ok (.getfield 326, 3) := by decide +kernel
theorem dX11_count_160 : decode cX11_count 160 = .ok (.ireturn, 1) := by decide +kernel
theorem dX11_count_161 : decode cX11_count 161 = .ok (.aload_n 0, 1) := by decide +kernel
theorem dX11_count_162 : decode cX11_count 162 = .ok (.getfield 250, 3) := by decide +kernel
theorem dX11_count_165 : decode cX11_count 165 = .ok (.ireturn, 1) := by decide +kernel
theorem dX11_count_166 : decode cX11_count 166 = .ok (.iconst (-1), 1) := by decide +kernel
theorem dX11_count_167 : decode cX11_count 167 = .ok (.ireturn, 1) := by decide +kernel
theorem dX14_init_0 : decode cX14_init 0 = .ok (.aload_n 0, 1) := by decide +kernel
theorem dX14_init_1 : decode cX14_init 1 = .ok (.invokespecial 3, 3) := by decide +kernel
theorem dX14_init_4 : decode cX14_init 4 = .ok (.aload_n 0, 1) := by decide +kernel
theorem dX14_init_5 : decode cX14_init 5 = .ok (.bipush 8, 2) := by decide +kernel
theorem dX14_init_7 : decode cX14_init 7 = .ok (.bipush 23, 2) := by decide +kernel
theorem dX14_init_9 : decode cX14_init 9 = .ok (.multianewarray 9 2, 4) := by decide +kernel
theorem dX14_init_13 : decode cX14_init 13 = .ok (.putfield 11, 3) := by decide +kernel
theorem dX14_init_16 : decode cX14_init 16 = .ok (.aload_n 0, 1) := by decide +kernel
theorem dX14_init_17 : decode cX14_init 17 = .ok (.bipush 8, 2) := by decide +kernel
theorem dX14_init_19 : decode cX14_init 19 = .ok (.newarray .int, 2) := by decide +kernel
theorem dX14_init_21 : decode cX14_init 21 = .ok (.putfield 16, 3) := by decide +kernel
theorem dX14_init_24 : decode cX14_init 24 = .ok (.aload_n 0, 1) := by decide +kernel
theorem dX14_init_25 : decode cX14_init 25 = .ok (.bipush 8, 2) := by decide +kernel
theorem dX14_init_27 : decode cX14_init 27 = .ok (.newarray .int, 2) := by decide +kernel
theorem dX14_init_29 : decode cX14_init 29 = .ok (.putfield 20, 3) := by decide +kernel
theorem dX14_init_32 : decode cX14_init 32 = .ok (.aload_n 0, 1) := by decide +kernel
theorem dX14_init_33 : decode cX14_init 33 = .ok (.bipush 8, 2) := by decide +kernel
theorem dX14_init_35 : decode cX14_init 35 = .ok (.newarray .int, 2) := by decide +kernel
theorem dX14_init_37 : decode cX14_init 37 = .ok (.putfield 23, 3) := by decide +kernel
theorem dX14_init_40 : decode cX14_init 40 = .ok (.aload_n 0, 1) := by decide +kernel
theorem dX14_init_41 : decode cX14_init 41 = .ok (.bipush 8, 2) := by decide +kernel
theorem dX14_init_43 : decode cX14_init 43 = .ok (.newarray .int, 2) := by decide +kernel
theorem dX14_init_45 : decode cX14_init 45 = .ok (.putfield 26, 3) := by decide +kernel
theorem dX14_init_48 : decode cX14_init 48 = .ok (.return_, 1) := by decide +kernel
theorem dX13_init_0 : decode cX13_init 0 = .ok (.aload_n 0, 1) := by decide +kernel
theorem dX13_init_1 : decode cX13_init 1 = .ok (.invokespecial 3, 3) := by decide +kernel
theorem dX13_init_4 : decode cX13_init 4 = .ok (.aload_n 0, 1) := by decide +kernel
theorem dX13_init_5 : decode cX13_init 5 = .ok (.new 9, 3) := by decide +kernel
theorem dX13_init_8 : decode cX13_init 8 = .ok (.dup, 1) := by decide +kernel
theorem dX13_init_9 : decode cX13_init 9 = .ok (.invokespecial 11, 3) := by decide +kernel
theorem dX13_init_12 : decode cX13_init 12 = .ok (.putfield 12, 3) := by decide +kernel
theorem dX13_init_15 : decode cX13_init 15 = .ok (.aload_n 0, 1) := by decide +kernel
theorem dX13_init_16 : decode cX13_init 16 = .ok (.bipush 23, 2) := by decide +kernel
theorem dX13_init_18 : decode cX13_init 18 = .ok (.newarray .int, 2) := by decide +kernel
theorem dX13_init_20 : decode cX13_init 20 = .ok (.putfield 18, 3) := by decide +kernel
theorem dX13_init_23 : decode cX13_init 23 = .ok (.aload_n 0, 1) := by decide +kernel
theorem dX13_init_24 : decode cX13_init 24 = .ok (.bipush 12, 2) := by decide +kernel
theorem dX13_init_26 : decode cX13_init 26 = .ok (.newarray .int, 2) := by decide +kernel
theorem dX13_init_28 : decode cX13_init 28 = .ok (.putfield 22, 3) := by decide +kernel
theorem dX13_init_31 : decode cX13_init 31 = .ok (.aload_n 0, 1) := by decide +kernel
theorem dX13_init_32 : decode cX13_init 32 = .ok (.bipush 12, 2) := by decide +kernel
theorem dX13_init_34 : decode cX13_init 34 = .ok (.newarray .int, 2) := by decide +kernel
theorem dX13_init_36 : decode cX13_init 36 = .ok (.putfield 25, 3) := by decide +kernel
theorem dX13_init_39 : decode cX13_init 39 = .ok (.aload_n 0, 1) := by decide +kernel
theorem dX13_init_40 : decode cX13_init 40 = .ok (.bipush 12, 2) := by decide +kernel
theorem dX13_init_42 : decode cX13_init 42 = .ok (.newarray .int, 2) := by decide +kernel
theorem dX13_init_44 : decode cX13_init 44 = .ok (.putfield 28, 3) := by decide +kernel
theorem dX13_init_47 : decode cX13_init 47 = .ok (.aload_n 0, 1) := by decide +kernel
theorem dX13_init_48 : decode cX13_init 48 = .ok (.bipush 12, 2) := by decide +kernel
theorem dX13_init_50 : decode cX13_init 50 = .ok (.newarray .int, 2) := by decide +kernel
theorem dX13_init_52 : decode cX13_init 52 = .ok (.putfield 31, 3) := by decide +kernel
theorem dX13_init_55 : decode cX13_init 55 = .ok (.aload_n 0, 1) := by decide +kernel
theorem dX13_init_56 : decode cX13_init 56 = .ok (.bipush 12, 2) := by decide +kernel
theorem dX13_init_58 : decode cX13_init 58 = .ok (.newarray .int, 2) := by decide +kernel
theorem dX13_init_60 : decode cX13_init 60 = .ok (.putfield 34, 3) := by decide +kernel
theorem dX13_init_63 : decode cX13_init 63 = .ok (.aload_n 0, 1) := by decide +kernel
theorem dX13_init_64 : decode cX13_init 64 = .ok (.bipush 24, 2) := by decide +kernel
theorem dX13_init_66 : decode cX13_init 66 = .ok (.newarray .int, 2) := by decide +kernel
theorem dX13_init_68 : decode cX13_init 68 = .ok (.putfield 37, 3) := by decide +kernel
theorem dX13_init_71 : decode cX13_init 71 = .ok (.aload_n 0, 1) := by decide +kernel
theorem dX13_init_72 : decode cX13_init 72 = .ok (.bipush 24, 2) := by decide +kernel
theorem dX13_init_74 : decode cX13_init 74 = .ok (.newarray .int, 2) := by decide +kernel
theorem dX13_init_76 : decode cX13_init 76 = .ok (.putfield 40, 3) := by decide +kernel
theorem dX13_init_79 : decode cX13_init 79 = .ok (.aload_n 0, 1) := by decide +kernel
theorem dX13_init_80 : decode cX13_init 80 = .ok (.bipush 64, 2) := by decide +kernel
theorem dX13_init_82 : decode cX13_init 82 = .ok (.newarray .int, 2) := by decide +kernel
theorem dX13_init_84 : decode cX13_init 84 = .ok (.putfield 43, 3) := by decide +kernel
theorem dX13_init_87 : decode cX13_init 87 = .ok (.aload_n 0, 1) := by decide +kernel
theorem dX13_init_88 : decode cX13_init 88 = .ok (.bipush 12, 2) := by decide +kernel
theorem dX13_init_90 : decode cX13_init 90 = .ok (.newarray .int, 2) := by decide +kernel
theorem dX13_init_92 : decode cX13_init 92 = .ok (.putfield 46, 3) := by decide +kernel
theorem dX13_init_95 : decode cX13_init 95 = .ok (.aload_n 0, 1) := by decide +kernel
theorem dX13_init_96 : decode cX13_init 96 = .ok (.iconst (-1), 1) := by decide +kernel
theorem dX13_init_97 : decode cX13_init 97 = .ok (.putfield 49, 3) := by decide +kernel
theorem dX13_init_100 : decode cX13_init 100 = .ok (.aload_n 0, 1) := by decide +kernel
theorem dX13_init_101 : decode cX13_init 101 = .ok (.bipush 16, 2) := by decide +kernel
theorem dX13_init_103 : decode cX13_init 103 = .ok (.newarray .int, 2) := by decide +kernel
theorem dX13_init_105 : decode cX13_init 105 = .ok (.putfield 53, 3) := by decide +kernel
theorem dX13_init_108 : decode cX13_init 108 = .ok (.return_, 1) := by decide +kernel
theorem dX12_init_0 : decode cX12_init 0 = .ok (.aload_n 0, 1) := by decide +kernel
theorem dX12_init_1 : decode cX12_init 1 = .ok (.invokespecial 3, 3) := by decide +kernel
theorem dX12_init_4 : decode cX12_init 4 = .ok (.aload_n 0, 1) := by decide +kernel
theorem dX12_init_5 : decode cX12_init 5 = .ok (.iconst 2, 1) := by decide +kernel
theorem dX12_init_6 : decode cX12_init 6 = .ok (.newarray .int, 2) := by decide +kernel
theorem dX12_init_8 : decode cX12_init 8 = .ok (.putfield 9, 3) := by decide +kernel
theorem dX12_init_11 : decode cX12_init 11 = .ok (.aload_n 0, 1) := by decide +kernel
theorem dX12_init_12 : decode cX12_init 12 = .ok (.bipush 64, 2) := by decide +kernel
theorem dX12_init_14 : decode cX12_init 14 = .ok (.newarray .int, 2) := by decide +kernel
theorem dX12_init_16 : decode cX12_init 16 = .ok (.putfield 15, 3) := by decide +kernel
theorem dX12_init_19 : decode cX12_init 19 = .ok (.aload_n 0, 1) := by decide +kernel
theorem dX12_init_20 : decode cX12_init 20 = .ok (.iconst 2, 1) := by decide +kernel
theorem dX12_init_21 : decode cX12_init 21 = .ok (.anewarray 18, 3) := by decide +kernel
theorem dX12_init_24 : decode cX12_init 24 = .ok (.dup, 1) := by decide +kernel
theorem dX12_init_25 : decode cX12_init 25 = .ok (.iconst 0, 1) := by decide +kernel
theorem dX12_init_26 : decode cX12_init 26 = .ok (.new 18, 3) := by decide +kernel
theorem dX12_init_29 : decode cX12_init 29 = .ok (.dup, 1) := by decide +kernel
theorem dX12_init_30 : decode cX12_init 30 = .ok (.invokespecial 20, 3) := by decide +kernel
theorem dX12_init_33 : decode cX12_init 33 = .ok (.aastore, 1) := by decide +kernel
theorem dX12_init_34 : decode cX12_init 34 = .ok (.dup, 1) := by decide +kernel
theorem dX12_init_35 : decode cX12_init 35 = .ok (.iconst 1, 1) := by decide +kernel
theorem dX12_init_36 : decode cX12_init 36 = .ok (.new 18, 3) := by decide +kernel
theorem dX12_init_39 : decode cX12_init 39 = .ok (.dup, 1) := by decide +kernel
theorem dX12_init_40 : decode cX12_init 40 = .ok (.invokespecial 20, 3) := by decide +kernel
theorem dX12_init_43 : decode cX12_init 43 = .ok (.aastore, 1) := by decide +kernel
theorem dX12_init_44 : decode cX12_init 44 = .ok (.putfield 21, 3) := by decide +kernel
theorem dX12_init_47 : decode cX12_init 47 = .ok (.aload_n 0, 1) := by decide +kernel
theorem dX12_init_48 : decode cX12_init 48 = .ok (.iconst 2, 1) := by decide +kernel
theorem dX12_init_49 : decode cX12_init 49 = .ok (.bipush 23, 2) := by decide +kernel
theorem dX12_init_51 : decode cX12_init 51 = .ok (.multianewarray 25 2, 4) := by decide +kernel
theorem dX12_init_55 : decode cX12_init 55 = .ok (.putfield 27, 3) := by decide +kernel
theorem dX12_init_58 : decode cX12_init 58 = .ok (.aload_n 0, 1) := by decide +kernel
theorem dX12_init_59 : decode cX12_init 59 = .ok (.iconst 2, 1) := by decide +kernel
theorem dX12_init_60 : decode cX12_init 60 = .ok (.newarray .int, 2) := by decide +kernel
theorem dX12_init_62 : decode cX12_init 62 = .ok (.putfield 30, 3) := by decide +kernel
theorem dX12_init_65 : decode cX12_init 65 = .ok (.return_, 1) := by decide +kernel
theorem dX15_init_0 : decode cX15_init 0 = .ok (.aload_n 0, 1) := by decide +kernel
theorem dX15_init_1 : decode cX15_init 1 = .ok (.invokespecial 1, 3) := by decide +kernel
theorem dX15_init_4 : decode cX15_init 4 = .ok (.aload_n 0, 1) := by decide +kernel
theorem dX15_init_5 : decode cX15_init 5 = .ok (.bipush 6, 2) := by decide +kernel
theorem dX15_init_7 : decode cX15_init 7 = .ok (.newarray .int, 2) := by decide +kernel
theorem dX15_init_9 : decode cX15_init 9 = .ok (.putfield 7, 3) := by decide +kernel
theorem dX15_init_12 : decode cX15_init 12 = .ok (.aload_n 0, 1) := by decide +kernel
theorem dX15_init_13 : decode cX15_init 13 = .ok (.bipush 6, 2) := by decide +kernel
theorem dX15_init_15 : decode cX15_init 15 = .ok (.anewarray 13, 3) := by decide +kernel
theorem dX15_init_18 : decode cX15_init 18 = .ok (.putfield 15, 3) := by decide +kernel
theorem dX15_init_21 : decode cX15_init 21 = .ok (.aload_n 0, 1) := by decide +kernel
theorem dX15_init_22 : decode cX15_init 22 = .ok (.bipush 24, 2) := by decide +kernel
theorem dX15_init_24 : decode cX15_init 24 = .ok (.anewarray 19, 3) := by decide +kernel
theorem dX15_init_27 : decode cX15_init 27 = .ok (.putfield 21, 3) := by decide +kernel
theorem dX15_init_30 : decode cX15_init 30 = .ok (.aload_n 0, 1) := by decide +kernel
theorem dX15_init_31 : decode cX15_init 31 = .ok (.iconst 5, 1) := by decide +kernel
theorem dX15_init_32 : decode cX15_init 32 = .ok (.anewarray 25, 3) := by decide +kernel
theorem dX15_init_35 : decode cX15_init 35 = .ok (.putfield 27, 3) := by decide +kernel
theorem dX15_init_38 : decode cX15_init 38 = .ok (.aload_n 0, 1) := by decide +kernel
theorem dX15_init_39 : decode cX15_init 39 = .ok (.bipush 23, 2) := by decide +kernel
theorem dX15_init_41 : decode cX15_init 41 = .ok (.newarray .int, 2) := by decide +kernel
theorem dX15_init_43 : decode cX15_init 43 = .ok (.putfield 31, 3) := by decide +kernel
theorem dX15_init_46 : decode cX15_init 46 = .ok (.aload_n 0, 1) := by decide +kernel
theorem dX15_init_47 : decode cX15_init 47 = .ok (.iconst 1, 1) := by decide +kernel
theorem dX15_init_48 : decode cX15_init 48 = .ok (.newarray .int, 2) := by decide +kernel
theorem dX15_init_50 : decode cX15_init 50 = .ok (.putfield 34, 3) := by decide +kernel
theorem dX15_init_53 : decode cX15_init 53 = .ok (.aload_n 0, 1) := by decide +kernel
theorem dX15_init_54 : decode cX15_init 54 = .ok (.bipush 8, 2) := by decide +kernel
theorem dX15_init_56 : decode cX15_init 56 = .ok (.newarray .int, 2) := by decide +kernel
theorem dX15_init_58 : decode cX15_init 58 = .ok (.putfield 37, 3) := by decide +kernel
theorem dX15_init_61 : decode cX15_init 61 = .ok (.aload_n 0, 1) := by decide +kernel
theorem dX15_init_62 : decode cX15_init 62 = .ok (.bipush 16, 2) := by decide +kernel
theorem dX15_init_64 : decode cX15_init 64 = .ok (.newarray .int, 2) := by decide +kernel
theorem dX15_init_66 : decode cX15_init 66 = .ok (.putfield 40, 3) := by decide +kernel
theorem dX15_init_69 : decode cX15_init 69 = .ok (.aload_n 0, 1) := by decide +kernel
theorem dX15_init_70 : decode cX15_init 70 = .ok (.iconst (-1), 1) := by decide +kernel
theorem dX15_init_71 : decode cX15_init 71 = .ok (.putfield 43, 3) := by decide +kernel
theorem dX15_init_74 : decode cX15_init 74 = .ok (.aload_n 0, 1) := by decide +kernel
theorem dX15_init_75 : decode cX15_init 75 = .ok (.bipush 23, 2) := by decide +kernel
theorem dX15_init_77 : decode cX15_init 77 = .ok (.newarray .int, 2) := by decide +kernel
theorem dX15_init_79 : decode cX15_init 79 = .ok (.putfield 47, 3) := by decide +kernel
theorem dX15_init_82 : decode cX15_init 82 = .ok (.aload_n 0, 1) := by decide +kernel
theorem dX15_init_83 : decode cX15_init 83 = .ok (.bipush 64, 2) := by decide +kernel
theorem dX15_init_85 : decode cX15_init 85 = .ok (.newarray .int, 2) := by decide +kernel
theorem dX15_init_87 : decode cX15_init 87 = .ok (.putfield 50, 3) := by decide +kernel
theorem dX15_init_90 : decode cX15_init 90 = .ok (.aload_n 0, 1) := by decide +kernel
theorem dX15_init_91 : decode cX15_init 91 = .ok (.bipush 64, 2) := by decide +kernel
theorem dX15_init_93 : decode cX15_init 93 = .ok (.newarray .int, 2) := by decide +kernel
theorem dX15_init_95 : decode cX15_init 95 = .ok (.putfield 53, 3) := by decide +kernel
theorem dX15_init_98 : decode cX15_init 98 = .ok (.aload_n 0, 1) := by decide +kernel
theorem dX15_init_99 : decode cX15_init 99 = .ok (.bipush 64, 2) := by decide +kernel
theorem dX15_init_101 : decode cX15_init 101 = .ok (.newarray .int, 2) := by decide +kernel
theorem dX15_init_103 : decode cX15_init 103 = .ok (.putfield 56, 3) := by decide +kernel
theorem dX15_init_106 : decode cX15_init 106 = .ok (.aload_n 0, 1) := by decide +kernel
theorem dX15_init_107 : decode cX15_init 107 = .ok (.bipush 40, 2) := by decide +kernel
theorem dX15_init_109 : decode cX15_init 109 = .ok (.anewarray 13, 3) := by decide +kernel
theorem dX15_init_112 : decode cX15_init 112 = .ok (.putfield 59, 3) := by decide +kernel
theorem dX15_init_115 : decode cX15_init 115 = .ok (.aload_n 0, 1) := by decide +kernel
theorem dX15_init_116 : decode cX15_init 116 = .ok (.bipush 40, 2) := by decide +kernel
theorem dX15_init_118 : decode cX15_init 118 = .ok (.newarray .int, 2) := by decide +kernel
theorem dX15_init_120 : decode cX15_init 120 = .ok (.putfield 62, 3) := by decide +kernel
theorem dX15_init_123 : decode cX15_init 123 = .ok (.aload_n 0, 1) := by decide +kernel
theorem dX15_init_124 : decode cX15_init 124 = .ok (.bipush 40, 2) := by decide +kernel
theorem dX15_init_126 : decode cX15_init 126 = .ok (.newarray .boolean, 2) := by decide +kernel
theorem dX15_init_128 : decode cX15_init 128 = .ok (.putfield 65, 3) := by decide +kernel
theorem dX15_init_131 : decode cX15_init 131 = .ok (.aload_n 0, 1) := by decide +kernel
theorem dX15_init_132 : decode cX15_init 132 = .ok (.bipush 23, 2) := by decide +kernel
theorem dX15_init_134 : decode cX15_init 134 = .ok (.newarray .int, 2) := by decide +kernel
theorem dX15_init_136 : decode cX15_init 136 = .ok (.putfield 69, 3) := by decide +kernel
theorem dX15_init_139 : decode cX15_init 139 = .ok (.aload_n 0, 1) := by decide +kernel
theorem dX15_init_140 : decode cX15_init 140 = .ok (.bipush 16, 2) := by decide +kernel
theorem dX15_init_142 : decode cX15_init 142 = .ok (.newarray .int, 2) := by decide +kernel
theorem dX15_init_144 : decode cX15_init 144 = .ok (.putfield 72, 3) := by decide +kernel
theorem dX15_init_147 : decode cX15_init 147 = .ok (.aload_n 0, 1) := by decide +kernel
theorem dX15_init_148 : decode cX15_init 148 = .ok (.bipush 23, 2) := by decide +kernel
theorem dX15_init_150 : decode cX15_init 150 = .ok (.newarray .int, 2) := by decide +kernel
theorem dX15_init_152 : decode cX15_init 152 = .ok (.putfield 75, 3) := by decide +kernel
theorem dX15_init_155 : decode cX15_init 155 = .ok (.aload_n 0, 1) := by decide +kernel
theorem dX15_init_156 : decode cX15_init 156 = .ok (.bipush 6, 2) := by decide +kernel
theorem dX15_init_158 : decode cX15_init 158 = .ok (.newarray .boolean, 2) := by decide +kernel
theorem dX15_init_160 : decode cX15_init 160 = .ok (.putfield 78, 3) := by decide +kernel
theorem dX15_init_163 : decode cX15_init 163 = .ok (.aload_n 0, 1) := by decide +kernel
theorem dX15_init_164 : decode cX15_init 164 = .ok (.iconst 4, 1) := by decide +kernel
theorem dX15_init_165 : decode cX15_init 165 = .ok (.newarray .boolean, 2) := by decide +kernel
theorem dX15_init_167 : decode cX15_init 167 = .ok (.putfield 81, 3) := by decide +kernel
theorem dX15_init_170 : decode cX15_init 170 = .ok (.aload_n 0, 1) := by decide +kernel
theorem dX15_init_171 : decode cX15_init 171 = .ok (.bipush 16, 2) := by decide +kernel
theorem dX15_init_173 : decode cX15_init 173 = .ok (.newarray .int, 2) := by decide +kernel
theorem dX15_init_175 : decode cX15_init 175 = .ok (.putfield 84, 3) := by decide +kernel
theorem dX15_init_178 : decode cX15_init 178 = .ok (.aload_n 0, 1) := by decide +kernel
theorem dX15_init_179 : decode cX15_init 179 = .ok (.bipush 60, 2) := by decide +kernel
theorem dX15_init_181 : decode cX15_init 181 = .ok (.newarray .int, 2) := by decide +kernel
theorem dX15_init_183 : decode cX15_init 183 = .ok (.putfield 87, 3) := by decide +kernel
theorem dX15_init_186 : decode cX15_init 186 = .ok (.iconst 0, 1) := by decide +kernel
theorem dX15_init_187 : decode cX15_init 187 = .ok (.istore_n 1, 1) := by decide +kernel
theorem dX15_init_188 : decode cX15_init 188 = .ok (.iload_n 1, 1) := by decide +kernel
theorem dX15_init_189 : decode cX15_init 189 = .ok (.bipush 24, 2) := by decide +kernel
theorem dX15_init_191 : decode cX15_init 191 = .ok (.if_icmp .ge 22, 3) := by decide +kernel
theorem dX15_init_194 : decode cX15_init 194 = .ok (.aload_n 0, 1) := by decide +kernel
theorem dX15_init_195 : decode cX15_init 195 = .ok (.getfield 21, 3) := by decide +kernel
theorem dX15_init_198 : decode cX15_init 198 = .ok (.iload_n 1, 1) := by decide +kernel
theorem dX15_init_199 : decode cX15_init 199 = .ok (.new 19, 3) := by decide +kernel
theorem dX15_init_202 : decode cX15_init 202 = .ok (.dup, 1) := by decide +kernel
theorem dX15_init_203 : decode cX15_init 203 = .ok (.invokespecial 90, 3) := by decide +kernel
theorem dX15_init_206 : decode cX15_init 206 = .ok (.aastore, 1) := by decide +kernel
theorem dX15_init_207 : decode cX15_init 207 = .ok (.iinc 1 1, 3) := by decide +kernel
theorem dX15_init_210 : decode cX15_init 210 = .ok (.goto (-22), 3) := by decide +kernel
theorem dX15_init_213 : decode cX15_init 213 = .ok (.iconst 0, 1) := by decide +kernel
theorem dX15_init_214 : decode cX15_init 214 = .ok (.istore_n 1, 1) := by decide +kernel
theorem dX15_init_215 : decode cX15_init 215 = .ok (.iload_n 1, 1) := by decide +kernel
theorem dX15_init_216 : decode cX15_init 216 = .ok (.iconst 5, 1) := by decide +kernel
theorem dX15_init_217 : decode cX15_init 217 = .ok (.if_icmp .ge 22, 3) := by decide +kernel
theorem dX15_init_220 : decode cX15_init 220 = .ok (.aload_n 0, 1) := by decide +kernel
theorem dX15_init_221 : decode cX15_init 221 = .ok (.getfield 27, 3) := by decide +kernel
theorem dX15_init_224 : decode cX15_init 224 = .ok (.iload_n 1, 1) := by decide +kernel
theorem dX15_init_225 : decode cX15_init 225 = .ok (.new 25, 3) := by decide +kernel
theorem dX15_init_228 : decode cX15_init 228 = .ok (.dup, 1) := by decide +kernel
theorem dX15_init_229 : decode cX15_init 229 = .ok (.invokespecial 91, 3) := by decide +kernel
theorem dX15_init_232 : decode cX15_init 232 = .ok (.aastore, 1) := by decide +kernel
theorem dX15_init_233 : decode cX15_init 233 = .ok (.iinc 1 1, 3) := by decide +kernel
theorem dX15_init_236 : decode cX15_init 236 = .ok (.goto (-21), 3) := by decide +kernel
theorem dX15_init_239 : decode cX15_init 239 = .ok (.iconst 0, 1) := by decide +kernel
theorem dX15_init_240 : decode cX15_init 240 = .ok (.istore_n 1, 1) := by decide +kernel
theorem dX15_init_241 : decode cX15_init 241 = .ok (.iload_n 1, 1) := by decide +kernel
theorem dX15_init_242 : decode cX15_init 242 = .ok (.bipush 6, 2) := by decide +kernel
theorem dX15_init_244 : decode cX15_init 244 = .ok (.if_icmp .ge 22, 3) := by decide +kernel
theorem dX15_init_247 : decode cX15_init 247 = .ok (.aload_n 0, 1) := by decide +kernel
theorem dX15_init_248 : decode cX15_init 248 = .ok (.getfield 15, 3) := by decide +kernel
theorem dX15_init_251 : decode cX15_init 251 = .ok (.iload_n 1, 1) := by decide +kernel
theorem dX15_init_252 : decode cX15_init 252 = .ok (.new 13, 3) := by decide +kernel
theorem dX15_init_255 : decode cX15_init 255 = .ok (.dup, 1) := by decide +kernel
theorem dX15_init_256 : decode cX15_init 256 = .ok (.invokespecial 92, 3) := by decide +kernel
theorem dX15_init_259 : decode cX15_init 259 = .ok (.aastore, 1) := by decide +kernel
theorem dX15_init_260 : decode cX15_init 260 = .ok (.iinc 1 1, 3) := by decide +kernel
theorem dX15_init_263 : decode cX15_init 263 = .ok (.goto (-22), 3) := by decide +kernel
theorem dX15_init_266 : decode cX15_init 266 = .ok (.return_, 1) := by decide +kernel
theorem dX15_thrown_0 : decode cX15_thrown 0 = .ok (.aload_n 0, 1) := by decide +kernel
theorem dX15_thrown_1 : decode cX15_thrown 1 = .ok (.getfield 93, 3) := by decide +kernel
theorem dX15_thrown_4 : decode cX15_thrown 4 = .ok (.ireturn, 1) := by decide +kernel
theorem dX15_in_0 : decode cX15_in 0 = .ok (.iload_n 0, 1) := by decide +kernel
theorem dX15_in_1 : decode cX15_in 1 = .ok (.iload_n 1, 1) := by decide +kernel
theorem dX15_in_2 : decode cX15_in 2 = .ok (.if_icmp .lt 12, 3) := by decide +kernel
theorem dX15_in_5 : decode cX15_in 5 = .ok (.iload_n 0, 1) := by decide +kernel
theorem dX15_in_6 : decode cX15_in 6 = .ok (.iload_n 2, 1) := by decide +kernel
theorem dX15_in_7 : decode cX15_in 7 = .ok (.if_icmp .gt 7, 3) := by decide +kernel
theorem dX15_in_10 : decode cX15_in 10 = .ok (.iconst 1, 1) := by decide +kernel
theorem dX15_in_11 : decode cX15_in 11 = .ok (.goto 4, 3) := by decide +kernel
theorem dX15_in_14 : decode cX15_in 14 = .ok (.iconst 0, 1) := by decide +kernel
theorem dX15_in_15 : decode cX15_in 15 = .ok (.ireturn, 1) := by decide +kernel
theorem dX15_isLine_0 : decode cX15_isLine 0 = .ok (.iload_n 1, 1) := by decide +kernel
theorem dX15_isLine_1 : decode cX15_isLine 1 = .ok (.iconst 0, 1) := by decide +kernel
theorem dX15_isLine_2 : decode cX15_isLine 2 = .ok (.aload_n 0, 1) := by decide +kernel
theorem dX15_isLine_3 : decode cX15_isLine 3 = .ok (.getfield 132, 3) := by decide +kernel
theorem dX15_isLine_6 : decode cX15_isLine 6 = .ok (.iconst 1, 1) := by decide +kernel
theorem dX15_isLine_7 : decode cX15_isLine 7 = .ok (.isub, 1) := by decide +kernel
theorem dX15_isLine_8 : decode cX15_isLine 8 = .ok (.invokestatic 135, 3) := by decide +kernel
theorem dX15_isLine_11 : decode cX15_isLine 11 = .ok (.ireturn, 1) := by decide +kernel
theorem dX15_isDevice_0 : decode cX15_isDevice 0 = .ok (.iload_n 1, 1) := by decide +kernel
theorem dX15_isDevice_1 : decode cX15_isDevice 1 = .ok (.iconst 0, 1) := by decide +kernel
theorem dX15_isDevice_2 : decode cX15_isDevice 2 = .ok (.aload_n 0, 1) := by decide +kernel
theorem dX15_isDevice_3 : decode cX15_isDevice 3 = .ok (.getfield 139, 3) := by decide +kernel
theorem dX15_isDevice_6 : decode cX15_isDevice 6 = .ok (.iconst 1, 1) := by decide +kernel
theorem dX15_isDevice_7 : decode cX15_isDevice 7 = .ok (.isub, 1) := by decide +kernel
theorem dX15_isDevice_8 : decode cX15_isDevice 8 = .ok (.invokestatic 135, 3) := by decide +kernel
theorem dX15_isDevice_11 : decode cX15_isDevice 11 = .ok (.ireturn, 1) := by decide +kernel
theorem dX15_isCoupler_0 : decode cX15_isCoupler 0 = .ok (.iload_n 1, 1) := by decide +kernel
theorem dX15_isCoupler_1 : decode cX15_isCoupler 1 = .ok (.iconst 0, 1) := by decide +kernel
theorem dX15_isCoupler_2 : decode cX15_isCoupler 2 = .ok (.aload_n 0, 1) := by decide +kernel
theorem dX15_isCoupler_3 : decode cX15_isCoupler 3 = .ok (.getfield 142, 3) := by decide +kernel
theorem dX15_isCoupler_6 : decode cX15_isCoupler 6 = .ok (.iconst 1, 1) := by decide +kernel
theorem dX15_isCoupler_7 : decode cX15_isCoupler 7 = .ok (.isub, 1) := by decide +kernel
theorem dX15_isCoupler_8 : decode cX15_isCoupler 8 = .ok (.invokestatic 135, 3) := by decide +kernel
theorem dX15_isCoupler_11 : decode cX15_isCoupler 11 = .ok (.ireturn, 1) := by decide +kernel
theorem dX15_isObject_0 : decode cX15_isObject 0 = .ok (.aload_n 0, 1) := by decide +kernel
theorem dX15_isObject_1 : decode cX15_isObject 1 = .ok (.iload_n 1, 1) := by decide +kernel
theorem dX15_isObject_2 : decode cX15_isObject 2 = .ok (.invokevirtual 145, 3) := by decide +kernel
theorem dX15_isObject_5 : decode cX15_isObject 5 = .ok (.ifCond .eq 26, 3) := by decide +kernel
theorem dX15_isObject_8 : decode cX15_isObject 8 = .ok (.iload_n 2, 1) := by decide +kernel
theorem dX15_isObject_9 : decode cX15_isObject 9 = .ok (.iconst 0, 1) := by decide +kernel
theorem dX15_isObject_10 : decode cX15_isObject 10 = .ok (.aload_n 0, 1) := by decide +kernel
theorem dX15_isObject_11 : decode cX15_isObject 11 = .ok (.getfield 21, 3) := by decide +kernel
theorem dX15_isObject_14 : decode cX15_isObject 14 = .ok (.iload_n 1, 1) := by decide +kernel
theorem dX15_isObject_15 : decode cX15_isObject 15 = .ok (.aaload, 1) := by decide +kernel
theorem dX15_isObject_16 : decode cX15_isObject 16 = .ok (.getfield 149, 3) := by decide +kernel
theorem dX15_isObject_19 : decode cX15_isObject 19 = .ok (.iconst 1, 1) := by decide +kernel
theorem dX15_isObject_20 : decode cX15_isObject 20 = .ok (.isub, 1) := by decide +kernel
theorem dX15_isObject_21 : decode cX15_isObject 21 = .ok (.invokestatic 135, 3) := by decide +kernel
theorem dX15_isObject_24 : decode cX15_isObject 24 = .ok (.ifCond .eq 7, 3) := by decide +kernel
theorem dX15_isObject_27 : decode cX15_isObject 27 = .ok (.iconst 1, 1) := by decide +kernel
theorem dX15_isObject_28 : decode cX15_isObject 28 = .ok (.goto 4, 3) := by decide +kernel
theorem dX15_isObject_31 : decode cX15_isObject 31 = .ok (.iconst 0, 1) := by decide +kernel
theorem dX15_isObject_32 : decode cX15_isObject 32 = .ok (.ireturn, 1) := by decide +kernel
theorem dX15_lineOf_0 : decode cX15_lineOf 0 = .ok (.iconst (-1), 1) := by decide +kernel
theorem dX15_lineOf_1 : decode cX15_lineOf 1 = .ok (.istore_n 2, 1) := by decide +kernel
theorem dX15_lineOf_2 : decode cX15_lineOf 2 = .ok (.iconst 0, 1) := by decide +kernel
theorem dX15_lineOf_3 : decode cX15_lineOf 3 = .ok (.istore_n 3, 1) := by decide +kernel
theorem dX15_lineOf_4 : decode cX15_lineOf 4 = .ok (.iload_n 3, 1) := by decide +kernel
theorem dX15_lineOf_5 : decode cX15_lineOf 5 = .ok (.aload_n 0, 1) := by decide +kernel
theorem dX15_lineOf_6 : decode cX15_lineOf 6 = .ok (.getfield 132, 3) := by decide +kernel
theorem dX15_lineOf_9 : decode cX15_lineOf 9 = .ok (.if_icmp .ge 21, 3) := by decide +kernel
theorem dX15_lineOf_12 : decode cX15_lineOf 12 = .ok (.aload_n 0, 1) := by decide +kernel
theorem dX15_lineOf_13 : decode cX15_lineOf 13 = .ok (.getfield 7, 3) := by decide +kernel
theorem dX15_lineOf_16 : decode cX15_lineOf 16 = .ok (.iload_n 3, 1) := by decide +kernel
theorem dX15_lineOf_17 : decode cX15_lineOf 17 = .ok (.iaload, 1) := by decide +kernel
theorem dX15_lineOf_18 : decode cX15_lineOf 18 = .ok (.iload_n 1, 1) := by decide +kernel
theorem dX15_lineOf_19 : decode cX15_lineOf 19 = .ok (.if_icmp .ne 5, 3) := by decide +kernel
theorem dX15_lineOf_22 : decode cX15_lineOf 22 = .ok (.iload_n 3, 1) := by decide +kernel
theorem dX15_lineOf_23 : decode cX15_lineOf 23 = .ok (.istore_n 2, 1) := by decide +kernel
theorem dX15_lineOf_24 : decode cX15_lineOf 24 = .ok (.iinc 3 1, 3) := by decide +kernel
theorem dX15_lineOf_27 : decode cX15_lineOf 27 = .ok (.goto (-23), 3) := by decide +kernel
theorem dX15_lineOf_30 : decode cX15_lineOf 30 = .ok (.iload_n 2, 1) := by decide +kernel
theorem dX15_lineOf_31 : decode cX15_lineOf 31 = .ok (.ireturn, 1) := by decide +kernel
theorem dX15_line_0 : decode cX15_line 0 = .ok (.aload_n 0, 1) := by decide +kernel
theorem dX15_line_1 : decode cX15_line 1 = .ok (.iconst 0, 1) := by decide +kernel
theorem dX15_line_2 : decode cX15_line 2 = .ok (.putfield 93, 3) := by decide +kernel
theorem dX15_line_5 : decode cX15_line 5 = .ok (.aload_n 0, 1) := by decide +kernel
theorem dX15_line_6 : decode cX15_line 6 = .ok (.getfield 132, 3) := by decide +kernel
theorem dX15_line_9 : decode cX15_line 9 = .ok (.bipush 6, 2) := by decide +kernel
theorem dX15_line_11 : decode cX15_line 11 = .ok (.if_icmp .eq 23, 3) := by decide +kernel
theorem dX15_line_14 : decode cX15_line 14 = .ok (.iload_n 1, 1) := by decide +kernel
theorem dX15_line_15 : decode cX15_line 15 = .ok (.iconst 0, 1) := by decide +kernel
theorem dX15_line_16 : decode cX15_line 16 = .ok (.sipush 255, 3) := by decide +kernel
theorem dX15_line_19 : decode cX15_line 19 = .ok (.invokestatic 135, 3) := by decide +kernel
theorem dX15_line_22 : decode cX15_line 22 = .ok (.ifCond .eq 12, 3) := by decide +kernel
theorem dX15_line_25 : decode cX15_line 25 = .ok (.aload_n 0, 1) := by decide +kernel
theorem dX15_line_26 : decode cX15_line 26 = .ok (.iload_n 1, 1) := by decide +kernel
theorem dX15_line_27 : decode cX15_line 27 = .ok (.invokevirtual 355, 3) := by decide +kernel
theorem dX15_line_30 : decode cX15_line 30 = .ok (.iconst (-1), 1) := by decide +kernel
theorem dX15_line_31 : decode cX15_line 31 = .ok (.if_icmp .eq 5, 3) := by decide +kernel
theorem dX15_line_34 : decode cX15_line 34 = .ok (.iconst (-1), 1) := by decide +kernel
theorem dX15_line_35 : decode cX15_line 35 = .ok (.ireturn, 1) := by decide +kernel
theorem dX15_line_36 : decode cX15_line 36 = .ok (.aload_n 0, 1) := by decide +kernel
theorem dX15_line_37 : decode cX15_line 37 = .ok (.getfield 7, 3) := by decide +kernel
theorem dX15_line_40 : decode cX15_line 40 = .ok (.aload_n 0, 1) := by decide +kernel
theorem dX15_line_41 : decode cX15_line 41 = .ok (.getfield 132, 3) := by decide +kernel
theorem dX15_line_44 : decode cX15_line 44 = .ok (.iload_n 1, 1) := by decide +kernel
theorem dX15_line_45 : decode cX15_line 45 = .ok (.iastore, 1) := by decide +kernel
theorem dX15_line_46 : decode cX15_line 46 = .ok (.aload_n 0, 1) := by decide +kernel
theorem dX15_line_47 : decode cX15_line 47 = .ok (.dup, 1) := by decide +kernel
theorem dX15_line_48 : decode cX15_line 48 = .ok (.getfield 132, 3) := by decide +kernel
theorem dX15_line_51 : decode cX15_line 51 = .ok (.iconst 1, 1) := by decide +kernel
theorem dX15_line_52 : decode cX15_line 52 = .ok (.iadd, 1) := by decide +kernel
theorem dX15_line_53 : decode cX15_line 53 = .ok (.putfield 132, 3) := by decide +kernel
theorem dX15_line_56 : decode cX15_line 56 = .ok (.aload_n 0, 1) := by decide +kernel
theorem dX15_line_57 : decode cX15_line 57 = .ok (.getfield 132, 3) := by decide +kernel
theorem dX15_line_60 : decode cX15_line 60 = .ok (.iconst 1, 1) := by decide +kernel
theorem dX15_line_61 : decode cX15_line 61 = .ok (.isub, 1) := by decide +kernel
theorem dX15_line_62 : decode cX15_line 62 = .ok (.ireturn, 1) := by decide +kernel
theorem dX15_device_0 : decode cX15_device 0 = .ok (.aload_n 0, 1) := by decide +kernel
theorem dX15_device_1 : decode cX15_device 1 = .ok (.iconst 0, 1) := by decide +kernel
theorem dX15_device_2 : decode cX15_device 2 = .ok (.putfield 93, 3) := by decide +kernel
theorem dX15_device_5 : decode cX15_device 5 = .ok (.aload_n 0, 1) := by decide +kernel
theorem dX15_device_6 : decode cX15_device 6 = .ok (.getfield 139, 3) := by decide +kernel
theorem dX15_device_9 : decode cX15_device 9 = .ok (.bipush 24, 2) := by decide +kernel
theorem dX15_device_11 : decode cX15_device 11 = .ok (.if_icmp .eq 22, 3) := by decide +kernel
theorem dX15_device_14 : decode cX15_device 14 = .ok (.aload_n 0, 1) := by decide +kernel
theorem dX15_device_15 : decode cX15_device 15 = .ok (.iload_n 1, 1) := by decide +kernel
theorem dX15_device_16 : decode cX15_device 16 = .ok (.invokevirtual 399, 3) := by decide +kernel
theorem dX15_device_19 : decode cX15_device 19 = .ok (.ifCond .eq 14, 3) := by decide +kernel
theorem dX15_device_22 : decode cX15_device 22 = .ok (.iload_n 2, 1) := by decide +kernel
theorem dX15_device_23 : decode cX15_device 23 = .ok (.iconst 1, 1) := by decide +kernel
theorem dX15_device_24 : decode cX15_device 24 = .ok (.sipush 255, 3) := by decide +kernel
theorem dX15_device_27 : decode cX15_device 27 = .ok (.invokestatic 135, 3) := by decide +kernel
theorem dX15_device_30 : decode cX15_device 30 = .ok (.ifCond .ne 5, 3) := by decide +kernel
theorem dX15_device_33 : decode cX15_device 33 = .ok (.iconst (-1), 1) := by decide +kernel
theorem dX15_device_34 : decode cX15_device 34 = .ok (.ireturn, 1) := by decide +kernel
theorem dX15_device_35 : decode cX15_device 35 = .ok (.sipush 256, 3) := by decide +kernel
theorem dX15_device_38 : decode cX15_device 38 = .ok (.aload_n 0, 1) := by decide +kernel
theorem dX15_device_39 : decode cX15_device 39 = .ok (.getfield 7, 3) := by decide +kernel
theorem dX15_device_42 : decode cX15_device 42 = .ok (.iload_n 1, 1) := by decide +kernel
theorem dX15_device_43 : decode cX15_device 43 = .ok (.iaload, 1) := by decide +kernel
theorem dX15_device_44 : decode cX15_device 44 = .ok (.imul, 1) := by decide +kernel
theorem dX15_device_45 : decode cX15_device 45 = .ok (.iload_n 2, 1) := by decide +kernel
theorem dX15_device_46 : decode cX15_device 46 = .ok (.iadd, 1) := by decide +kernel
theorem dX15_device_47 : decode cX15_device 47 = .ok (.istore_n 3, 1) := by decide +kernel
theorem dX15_device_48 : decode cX15_device 48 = .ok (.iconst 0, 1) := by decide +kernel
theorem dX15_device_49 : decode cX15_device 49 = .ok (.istore 4, 2) := by decide +kernel
theorem dX15_device_51 : decode cX15_device 51 = .ok (.iload 4, 2) := by decide +kernel
theorem dX15_device_53 : decode cX15_device 53 = .ok (.aload_n 0, 1) := by decide +kernel
theorem dX15_device_54 : decode cX15_device 54 = .ok (.getfield 139, 3) := by decide +kernel
theorem dX15_device_57 : decode cX15_device 57 = .ok (.if_icmp .ge 25, 3) := by decide +kernel
theorem dX15_device_60 : decode cX15_device 60 = .ok (.aload_n 0, 1) := by decide +kernel
theorem dX15_device_61 : decode cX15_device 61 = .ok (.getfield 21, 3) := by decide +kernel
theorem dX15_device_64 : decode cX15_device 64 = .ok (.iload 4, 2) := by decide +kernel
theorem dX15_device_66 : decode cX15_device 66 = .ok (.aaload, 1) := by decide +kernel
theorem dX15_device_67 : decode cX15_device 67 = .ok (.getfield 152, 3) := by decide +kernel
theorem dX15_device_70 : decode cX15_device 70 = .ok (.iload_n 3, 1) := by decide +kernel
theorem dX15_device_71 : decode cX15_device 71 = .ok (.if_icmp .ne 5, 3) := by decide +kernel
theorem dX15_device_74 : decode cX15_device 74 = .ok (.iconst (-1), 1) := by decide +kernel
theorem dX15_device_75 : decode cX15_device 75 = .ok (.ireturn, 1) := by decide +kernel
theorem dX15_device_76 : decode cX15_device 76 = .ok (.iinc 4 1, 3) := by decide +kernel
theorem dX15_device_79 : decode cX15_device 79 = .ok (.goto (-28), 3) := by decide +kernel
theorem dX15_device_82 : decode cX15_device 82 = .ok (.aload_n 0, 1) := by decide +kernel
theorem dX15_device_83 : decode cX15_device 83 = .ok (.getfield 21, 3) := by decide +kernel
theorem dX15_device_86 : decode cX15_device 86 = .ok (.aload_n 0, 1) := by decide +kernel
theorem dX15_device_87 : decode cX15_device 87 = .ok (.getfield 139, 3) := by decide +kernel
theorem dX15_device_90 : decode cX15_device 90 = .ok (.aaload, 1) := by decide +kernel
theorem dX15_device_91 : decode cX15_device 91 = .ok (.iload_n 1, 1) := by decide +kernel
theorem dX15_device_92 : decode cX15_device 92 = .ok (.putfield 271, 3) := by decide +kernel
theorem dX15_device_95 : decode cX15_device 95 = .ok (.aload_n 0, 1) := by decide +kernel
theorem dX15_device_96 : decode cX15_device 96 = .ok (.getfield 21, 3) := by decide +kernel
theorem dX15_device_99 : decode cX15_device 99 = .ok (.aload_n 0, 1) := by decide +kernel
theorem dX15_device_100 : decode cX15_device 100 = .ok (.getfield 139, 3) := by decide +kernel
theorem dX15_device_103 : decode cX15_device 103 = .ok (.aaload, 1) := by decide +kernel
theorem dX15_device_104 : decode cX15_device 104 = .ok (.iload_n 3, 1) := by decide +kernel
theorem dX15_device_105 : decode cX15_device 105 = .ok (.putfield 152, 3) := by decide +kernel
theorem dX15_device_108 : decode cX15_device 108 = .ok (.aload_n 0, 1) := by decide +kernel
theorem dX15_device_109 : decode cX15_device 109 = .ok (.dup, 1) := by decide +kernel
theorem dX15_device_110 : decode cX15_device 110 = .ok (.getfield 139, 3) := by decide +kernel
theorem dX15_device_113 : decode cX15_device 113 = .ok (.iconst 1, 1) := by decide +kernel
theorem dX15_device_114 : decode cX15_device 114 = .ok (.iadd, 1) := by decide +kernel
theorem dX15_device_115 : decode cX15_device 115 = .ok (.putfield 139, 3) := by decide +kernel
theorem dX15_device_118 : decode cX15_device 118 = .ok (.aload_n 0, 1) := by decide +kernel
theorem dX15_device_119 : decode cX15_device 119 = .ok (.getfield 139, 3) := by decide +kernel
theorem dX15_device_122 : decode cX15_device 122 = .ok (.iconst 1, 1) := by decide +kernel
theorem dX15_device_123 : decode cX15_device 123 = .ok (.isub, 1) := by decide +kernel
theorem dX15_device_124 : decode cX15_device 124 = .ok (.ireturn, 1) := by decide +kernel
theorem dX15_coupler_0 : decode cX15_coupler 0 = .ok (.aload_n 0, 1) := by decide +kernel
theorem dX15_coupler_1 : decode cX15_coupler 1 = .ok (.iconst 0, 1) := by decide +kernel
theorem dX15_coupler_2 : decode cX15_coupler 2 = .ok (.putfield 93, 3) := by decide +kernel
theorem dX15_coupler_5 : decode cX15_coupler 5 = .ok (.aload_n 0, 1) := by decide +kernel
theorem dX15_coupler_6 : decode cX15_coupler 6 = .ok (.getfield 142, 3) := by decide +kernel
theorem dX15_coupler_9 : decode cX15_coupler 9 = .ok (.iconst 5, 1) := by decide +kernel
theorem dX15_coupler_10 : decode cX15_coupler 10 = .ok (.if_icmp .eq 29, 3) := by decide +kernel
theorem dX15_coupler_13 : decode cX15_coupler 13 = .ok (.aload_n 0, 1) := by decide +kernel
theorem dX15_coupler_14 : decode cX15_coupler 14 = .ok (.iload_n 1, 1) := by decide +kernel
theorem dX15_coupler_15 : decode cX15_coupler 15 = .ok (.invokevirtual 399, 3) := by decide +kernel
theorem dX15_coupler_18 : decode cX15_coupler 18 = .ok (.ifCond .eq 21, 3) := by decide +kernel
theorem dX15_coupler_21 : decode cX15_coupler 21 = .ok (.aload_n 0, 1) := by decide +kernel
theorem dX15_coupler_22 : decode cX15_coupler 22 = .ok (.iload_n 2, 1) := by decide +kernel
theorem dX15_coupler_23 : decode cX15_coupler 23 = .ok (.invokevirtual 399, 3) := by decide +kernel
theorem dX15_coupler_26 : decode cX15_coupler 26 = .ok (.ifCond .eq 13, 3) := by decide +kernel
theorem dX15_coupler_29 : decode cX15_coupler 29 = .ok (.aload_n 0, 1) := by decide +kernel
theorem dX15_coupler_30 : decode cX15_coupler 30 = .ok (.iload_n 1, 1) := by decide +kernel
theorem dX15_coupler_31 : decode cX15_coupler 31 = .ok (.iload_n 2, 1) := by decide +kernel
theorem dX15_coupler_32 : decode cX15_coupler 32 = .ok (.iconst (-1), 1) := by decide +kernel
theorem dX15_coupler_33 : decode cX15_coupler 33 = .ok (.invokevirtual 358, 3) := by decide +kernel
theorem dX15_coupler_36 : decode cX15_coupler 36 = .ok (.ifCond .eq 5, 3) := by decide +kernel
theorem dX15_coupler_39 : decode cX15_coupler 39 = .ok (.iconst (-1), 1) := by decide +kernel
theorem dX15_coupler_40 : decode cX15_coupler 40 = .ok (.ireturn, 1) := by decide +kernel
theorem dX15_coupler_41 : decode cX15_coupler 41 = .ok (.aload_n 0, 1) := by decide +kernel
theorem dX15_coupler_42 : decode cX15_coupler 42 = .ok (.getfield 27, 3) := by decide +kernel
theorem dX15_coupler_45 : decode cX15_coupler 45 = .ok (.aload_n 0, 1) := by decide +kernel
theorem dX15_coupler_46 : decode cX15_coupler 46 = .ok (.getfield 142, 3) := by decide +kernel
theorem dX15_coupler_49 : decode cX15_coupler 49 = .ok (.aaload, 1) := by decide +kernel
theorem dX15_coupler_50 : decode cX15_coupler 50 = .ok (.getfield 278, 3) := by decide +kernel
theorem dX15_coupler_53 : decode cX15_coupler 53 = .ok (.iconst 0, 1) := by decide +kernel
theorem dX15_coupler_54 : decode cX15_coupler 54 = .ok (.iload_n 1, 1) := by decide +kernel
theorem dX15_coupler_55 : decode cX15_coupler 55 = .ok (.iastore, 1) := by decide +kernel
theorem dX15_coupler_56 : decode cX15_coupler 56 = .ok (.aload_n 0, 1) := by decide +kernel
theorem dX15_coupler_57 : decode cX15_coupler 57 = .ok (.getfield 27, 3) := by decide +kernel
theorem dX15_coupler_60 : decode cX15_coupler 60 = .ok (.aload_n 0, 1) := by decide +kernel
theorem dX15_coupler_61 : decode cX15_coupler 61 = .ok (.getfield 142, 3) := by decide +kernel
theorem dX15_coupler_64 : decode cX15_coupler 64 = .ok (.aaload, 1) := by decide +kernel
theorem dX15_coupler_65 : decode cX15_coupler 65 = .ok (.getfield 278, 3) := by decide +kernel
theorem dX15_coupler_68 : decode cX15_coupler 68 = .ok (.iconst 1, 1) := by decide +kernel
theorem dX15_coupler_69 : decode cX15_coupler 69 = .ok (.iload_n 2, 1) := by decide +kernel
theorem dX15_coupler_70 : decode cX15_coupler 70 = .ok (.iastore, 1) := by decide +kernel
theorem dX15_coupler_71 : decode cX15_coupler 71 = .ok (.aload_n 0, 1) := by decide +kernel
theorem dX15_coupler_72 : decode cX15_coupler 72 = .ok (.dup, 1) := by decide +kernel
theorem dX15_coupler_73 : decode cX15_coupler 73 = .ok (.getfield 142, 3) := by decide +kernel
theorem dX15_coupler_76 : decode cX15_coupler 76 = .ok (.iconst 1, 1) := by decide +kernel
theorem dX15_coupler_77 : decode cX15_coupler 77 = .ok (.iadd, 1) := by decide +kernel
theorem dX15_coupler_78 : decode cX15_coupler 78 = .ok (.putfield 142, 3) := by decide +kernel
theorem dX15_coupler_81 : decode cX15_coupler 81 = .ok (.aload_n 0, 1) := by decide +kernel
theorem dX15_coupler_82 : decode cX15_coupler 82 = .ok (.getfield 142, 3) := by decide +kernel
theorem dX15_coupler_85 : decode cX15_coupler 85 = .ok (.iconst 1, 1) := by decide +kernel
theorem dX15_coupler_86 : decode cX15_coupler 86 = .ok (.isub, 1) := by decide +kernel
theorem dX15_coupler_87 : decode cX15_coupler 87 = .ok (.ireturn, 1) := by decide +kernel
theorem dX15_mode_0 : decode cX15_mode 0 = .ok (.aload_n 0, 1) := by decide +kernel
theorem dX15_mode_1 : decode cX15_mode 1 = .ok (.iconst 0, 1) := by decide +kernel
theorem dX15_mode_2 : decode cX15_mode 2 = .ok (.putfield 93, 3) := by decide +kernel
theorem dX15_mode_5 : decode cX15_mode 5 = .ok (.aload_n 0, 1) := by decide +kernel
theorem dX15_mode_6 : decode cX15_mode 6 = .ok (.iload_n 1, 1) := by decide +kernel
theorem dX15_mode_7 : decode cX15_mode 7 = .ok (.invokevirtual 402, 3) := by decide +kernel
theorem dX15_mode_10 : decode cX15_mode 10 = .ok (.ifCond .eq 12, 3) := by decide +kernel
theorem dX15_mode_13 : decode cX15_mode 13 = .ok (.iload_n 2, 1) := by decide +kernel
theorem dX15_mode_14 : decode cX15_mode 14 = .ok (.iconst 0, 1) := by decide +kernel
theorem dX15_mode_15 : decode cX15_mode 15 = .ok (.iconst 2, 1) := by decide +kernel
theorem dX15_mode_16 : decode cX15_mode 16 = .ok (.invokestatic 135, 3) := by decide +kernel
theorem dX15_mode_19 : decode cX15_mode 19 = .ok (.ifCond .ne 5, 3) := by decide +kernel
theorem dX15_mode_22 : decode cX15_mode 22 = .ok (.iconst 0, 1) := by decide +kernel
theorem dX15_mode_23 : decode cX15_mode 23 = .ok (.ireturn, 1) := by decide +kernel
theorem dX15_mode_24 : decode cX15_mode 24 = .ok (.aload_n 0, 1) := by decide +kernel
theorem dX15_mode_25 : decode cX15_mode 25 = .ok (.getfield 27, 3) := by decide +kernel
theorem dX15_mode_28 : decode cX15_mode 28 = .ok (.iload_n 1, 1) := by decide +kernel
theorem dX15_mode_29 : decode cX15_mode 29 = .ok (.aaload, 1) := by decide +kernel
theorem dX15_mode_30 : decode cX15_mode 30 = .ok (.iload_n 2, 1) := by decide +kernel
theorem dX15_mode_31 : decode cX15_mode 31 = .ok (.putfield 352, 3) := by decide +kernel
theorem dX15_mode_34 : decode cX15_mode 34 = .ok (.iconst 1, 1) := by decide +kernel
theorem dX15_mode_35 : decode cX15_mode 35 = .ok (.ireturn, 1) := by decide +kernel
theorem dX15_filter_0 : decode cX15_filter 0 = .ok (.aload_n 0, 1) := by decide +kernel
theorem dX15_filter_1 : decode cX15_filter 1 = .ok (.iconst 0, 1) := by decide +kernel
theorem dX15_filter_2 : decode cX15_filter 2 = .ok (.putfield 93, 3) := by decide +kernel
theorem dX15_filter_5 : decode cX15_filter 5 = .ok (.aload_n 0, 1) := by decide +kernel
theorem dX15_filter_6 : decode cX15_filter 6 = .ok (.iload_n 1, 1) := by decide +kernel
theorem dX15_filter_7 : decode cX15_filter 7 = .ok (.invokevirtual 402, 3) := by decide +kernel
theorem dX15_filter_10 : decode cX15_filter 10 = .ok (.ifCond .eq 14, 3) := by decide +kernel
theorem dX15_filter_13 : decode cX15_filter 13 = .ok (.iload_n 2, 1) := by decide +kernel
theorem dX15_filter_14 : decode cX15_filter 14 = .ok (.iconst 1, 1) := by decide +kernel
theorem dX15_filter_15 : decode cX15_filter 15 = .ok (.ldc_w 405, 3) := by decide +kernel
theorem dX15_filter_18 : decode cX15_filter 18 = .ok (.invokestatic 135, 3) := by decide +kernel
theorem dX15_filter_21 : decode cX15_filter 21 = .ok (.ifCond .ne 5, 3) := by decide +kernel
theorem dX15_filter_24 : decode cX15_filter 24 = .ok (.iconst 0, 1) := by decide +kernel
theorem dX15_filter_25 : decode cX15_filter 25 = .ok (.ireturn, 1) := by decide +kernel
theorem dX15_filter_26 : decode cX15_filter 26 = .ok (.aload_n 0, 1) := by decide +kernel
theorem dX15_filter_27 : decode cX15_filter 27 = .ok (.getfield 27, 3) := by decide +kernel
theorem dX15_filter_30 : decode cX15_filter 30 = .ok (.iload_n 1, 1) := by decide +kernel
theorem dX15_filter_31 : decode cX15_filter 31 = .ok (.aaload, 1) := by decide +kernel
theorem dX15_filter_32 : decode cX15_filter 32 = .ok (.astore 4, 2) := by decide +kernel
theorem dX15_filter_34 : decode cX15_filter 34 = .ok (.iconst 0, 1) := by decide +kernel
theorem dX15_filter_35 : decode cX15_filter 35 = .ok (.istore 5, 2) := by decide +kernel
theorem dX15_filter_37 : decode cX15_filter 37 = .ok (.iload 5, 2) := by decide +kernel
theorem dX15_filter_39 : decode cX15_filter 39 = .ok (.aload 4, 2) := by decide +kernel
theorem dX15_filter_41 : decode cX15_filter 41 = .ok (.getfield 346, 3) := by decide +kernel
theorem dX15_filter_44 : decode cX15_filter 44 = .ok (.if_icmp .ge 21, 3) := by decide +kernel
theorem dX15_filter_47 : decode cX15_filter 47 = .ok (.aload 4, 2) := by decide +kernel
theorem dX15_filter_49 : decode cX15_filter 49 = .ok (.getfield 349, 3) := by decide +kernel
theorem dX15_filter_52 : decode cX15_filter 52 = .ok (.iload 5, 2) := by decide +kernel
theorem dX15_filter_54 : decode cX15_filter 54 = .ok (.iaload, 1) := by decide +kernel
theorem dX15_filter_55 : decode cX15_filter 55 = .ok (.iload_n 2, 1) := by decide +kernel
theorem dX15_filter_56 : decode cX15_filter 56 = .ok (.if_icmp .eq 9, 3) := by decide +kernel
theorem dX15_filter_59 : decode cX15_filter 59 = .ok (.iinc 5 1, 3) := by decide +kernel
theorem dX15_filter_62 : decode cX15_filter 62 = .ok (.goto (-25), 3) := by decide +kernel
theorem dX15_filter_65 : decode cX15_filter 65 = .ok (.iload 5, 2) := by decide +kernel
theorem dX15_filter_67 : decode cX15_filter 67 = .ok (.aload 4, 2) := by decide +kernel
theorem dX15_filter_69 : decode cX15_filter 69 = .ok (.getfield 346, 3) := by decide +kernel
theorem dX15_filter_72 : decode cX15_filter 72 = .ok (.if_icmp .ge 39, 3) := by decide +kernel
theorem dX15_filter_75 : decode cX15_filter 75 = .ok (.iload_n 3, 1) := by decide +kernel
theorem dX15_filter_76 : decode cX15_filter 76 = .ok (.ifCond .ne 33, 3) := by decide +kernel
theorem dX15_filter_79 : decode cX15_filter 79 = .ok (.aload 4, 2) := by decide +kernel
theorem dX15_filter_81 : decode cX15_filter 81 = .ok (.dup, 1) := by decide +kernel
theorem dX15_filter_82 : decode cX15_filter 82 = .ok (.getfield 346, 3) := by decide +kernel
theorem dX15_filter_85 : decode cX15_filter 85 = .ok (.iconst 1, 1) := by decide +kernel
theorem dX15_filter_86 : decode cX15_filter 86 = .ok (.isub, 1) := by decide +kernel
theorem dX15_filter_87 : decode cX15_filter 87 = .ok (.putfield 346, 3) := by decide +kernel
theorem dX15_filter_90 : decode cX15_filter 90 = .ok (.aload 4, 2) := by decide +kernel
theorem dX15_filter_92 : decode cX15_filter 92 = .ok (.getfield 349, 3) := by decide +kernel
theorem dX15_filter_95 : decode cX15_filter 95 = .ok (.iload 5, 2) := by decide +kernel
theorem dX15_filter_97 : decode cX15_filter 97 = .ok (.aload 4, 2) := by decide +kernel
theorem dX15_filter_99 : decode cX15_filter 99 = .ok (.getfield 349, 3) := by decide +kernel
theorem dX15_filter_102 : decode cX15_filter 102 = .ok (.aload 4, 2) := by decide +kernel
theorem dX15_filter_104 : decode cX15_filter 104 = .ok (.getfield 346, 3) := by decide +kernel
theorem dX15_filter_107 : decode cX15_filter 107 = .ok (.iaload, 1) := by decide +kernel
theorem dX15_filter_108 : decode cX15_filter 108 = .ok (.iastore, 1) := by decide +kernel
theorem dX15_filter_109 : decode cX15_filter 109 = .ok (.iconst 1, 1) := by decide +kernel
theorem dX15_filter_110 : decode cX15_filter 110 = .ok (.ireturn, 1) := by decide +kernel
theorem dX15_filter_111 : decode cX15_filter 111 = .ok (.iload_n 3, 1) := by decide +kernel
theorem dX15_filter_112 : decode cX15_filter 112 = .ok (.ifCond .ne 5, 3) := by decide +kernel
theorem dX15_filter_115 : decode cX15_filter 115 = .ok (.iconst 1, 1) := by decide +kernel
theorem dX15_filter_116 : decode cX15_filter 116 = .ok (.ireturn, 1) := by decide +kernel
theorem dX15_filter_117 : decode cX15_filter 117 = .ok (.aload 4, 2) := by decide +kernel
theorem dX15_filter_119 : decode cX15_filter 119 = .ok (.getfield 346, 3) := by decide +kernel
theorem dX15_filter_122 : decode cX15_filter 122 = .ok (.bipush 64, 2) := by decide +kernel
theorem dX15_filter_124 : decode cX15_filter 124 = .ok (.if_icmp .ne 5, 3) := by decide +kernel
theorem dX15_filter_127 : decode cX15_filter 127 = .ok (.iconst 0, 1) := by decide +kernel
theorem dX15_filter_128 : decode cX15_filter 128 = .ok (.ireturn, 1) := by decide +kernel
theorem dX15_filter_129 : decode cX15_filter 129 = .ok (.aload 4, 2) := by decide +kernel
theorem dX15_filter_131 : decode cX15_filter 131 = .ok (.getfield 349, 3) := by decide +kernel
theorem dX15_filter_134 : decode cX15_filter 134 = .ok (.aload 4, 2) := by decide +kernel
theorem dX15_filter_136 : decode cX15_filter 136 = .ok (.getfield 346, 3) := by decide +kernel
theorem dX15_filter_139 : decode cX15_filter 139 = .ok (.iload_n 2, 1) := by decide +kernel
theorem dX15_filter_140 : decode cX15_filter 140 = .ok (.iastore, 1) := by decide +kernel
theorem dX15_filter_141 : decode cX15_filter 141 = .ok (.aload 4, 2) := by decide +kernel
theorem dX15_filter_143 : decode cX15_filter 143 = .ok (.dup, 1) := by decide +kernel
theorem dX15_filter_144 : decode cX15_filter 144 = .ok (.getfield 346, 3) := by decide +kernel
theorem dX15_filter_147 : decode cX15_filter 147 = .ok (.iconst 1, 1) := by decide +kernel
theorem dX15_filter_148 : decode cX15_filter 148 = .ok (.iadd, 1) := by decide +kernel
theorem dX15_filter_149 : decode cX15_filter 149 = .ok (.putfield 346, 3) := by decide +kernel
theorem dX15_filter_152 : decode cX15_filter 152 = .ok (.iconst 1, 1) := by decide +kernel
theorem dX15_filter_153 : decode cX15_filter 153 = .ok (.ireturn, 1) := by decide +kernel
theorem dX15_object_0 : decode cX15_object 0 = .ok (.aload_n 0, 1) := by decide +kernel
theorem dX15_object_1 : decode cX15_object 1 = .ok (.iconst 0, 1) := by decide +kernel
theorem dX15_object_2 : decode cX15_object 2 = .ok (.putfield 93, 3) := by decide +kernel
theorem dX15_object_5 : decode cX15_object 5 = .ok (.aload_n 0, 1) := by decide +kernel
theorem dX15_object_6 : decode cX15_object 6 = .ok (.iload_n 1, 1) := by decide +kernel
theorem dX15_object_7 : decode cX15_object 7 = .ok (.invokevirtual 145, 3) := by decide +kernel
theorem dX15_object_10 : decode cX15_object 10 = .ok (.ifCond .eq 47, 3) := by decide +kernel
theorem dX15_object_13 : decode cX15_object 13 = .ok (.iload_n 2, 1) := by decide +kernel
theorem dX15_object_14 : decode cX15_object 14 = .ok (.iconst 0, 1) := by decide +kernel
theorem dX15_object_15 : decode cX15_object 15 = .ok (.bipush 7, 2) := by decide +kernel
theorem dX15_object_17 : decode cX15_object 17 = .ok (.invokestatic 135, 3) := by decide +kernel
theorem dX15_object_20 : decode cX15_object 20 = .ok (.ifCond .eq 37, 3) := by decide +kernel
theorem dX15_object_23 : decode cX15_object 23 = .ok (.iload_n 3, 1) := by decide +kernel
theorem dX15_object_24 : decode cX15_object 24 = .ok (.iconst 0, 1) := by decide +kernel
theorem dX15_object_25 : decode cX15_object 25 = .ok (.bipush 31, 2) := by decide +kernel
theorem dX15_object_27 : decode cX15_object 27 = .ok (.invokestatic 135, 3) := by decide +kernel
theorem dX15_object_30 : decode cX15_object 30 = .ok (.ifCond .eq 27, 3) := by decide +kernel
theorem dX15_object_33 : decode cX15_object 33 = .ok (.iload 4, 2) := by decide +kernel
theorem dX15_object_35 : decode cX15_object 35 = .ok (.iconst 0, 1) := by decide +kernel
theorem dX15_object_36 : decode cX15_object 36 = .ok (.iconst 3, 1) := by decide +kernel
theorem dX15_object_37 : decode cX15_object 37 = .ok (.invokestatic 135, 3) := by decide +kernel
theorem dX15_object_40 : decode cX15_object 40 = .ok (.ifCond .eq 17, 3) := by decide +kernel
theorem dX15_object_43 : decode cX15_object 43 = .ok (.aload_n 0, 1) := by decide +kernel
theorem dX15_object_44 : decode cX15_object 44 = .ok (.getfield 21, 3) := by decide +kernel
theorem dX15_object_47 : decode cX15_object 47 = .ok (.iload_n 1, 1) := by decide +kernel
theorem dX15_object_48 : decode cX15_object 48 = .ok (.aaload, 1) := by decide +kernel
theorem dX15_object_49 : decode cX15_object 49 = .ok (.getfield 149, 3) := by decide +kernel
theorem dX15_object_52 : decode cX15_object 52 = .ok (.bipush 12, 2) := by decide +kernel
theorem dX15_object_54 : decode cX15_object 54 = .ok (.if_icmp .ne 5, 3) := by decide +kernel
theorem dX15_object_57 : decode cX15_object 57 = .ok (.iconst (-1), 1) := by decide +kernel
theorem dX15_object_58 : decode cX15_object 58 = .ok (.ireturn, 1) := by decide +kernel
theorem dX15_object_59 : decode cX15_object 59 = .ok (.aload_n 0, 1) := by decide +kernel
theorem dX15_object_60 : decode cX15_object 60 = .ok (.getfield 21, 3) := by decide +kernel
theorem dX15_object_63 : decode cX15_object 63 = .ok (.iload_n 1, 1) := by decide +kernel
theorem dX15_object_64 : decode cX15_object 64 = .ok (.aaload, 1) := by decide +kernel
theorem dX15_object_65 : decode cX15_object 65 = .ok (.astore 5, 2) := by decide +kernel
theorem dX15_object_67 : decode cX15_object 67 = .ok (.aload 5, 2) := by decide +kernel
theorem dX15_object_69 : decode cX15_object 69 = .ok (.getfield 167, 3) := by decide +kernel
theorem dX15_object_72 : decode cX15_object 72 = .ok (.aload 5, 2) := by decide +kernel
theorem dX15_object_74 : decode cX15_object 74 = .ok (.getfield 149, 3) := by decide +kernel
theorem dX15_object_77 : decode cX15_object 77 = .ok (.getstatic 406, 3) := by decide +kernel
theorem dX15_object_80 : decode cX15_object 80 = .ok (.iload_n 2, 1) := by decide +kernel
theorem dX15_object_81 : decode cX15_object 81 = .ok (.iaload, 1) := by decide +kernel
theorem dX15_object_82 : decode cX15_object 82 = .ok (.iastore, 1) := by decide +kernel
theorem dX15_object_83 : decode cX15_object 83 = .ok (.aload 5, 2) := by decide +kernel
theorem dX15_object_85 : decode cX15_object 85 = .ok (.getfield 189, 3) := by decide +kernel
theorem dX15_object_88 : decode cX15_object 88 = .ok (.aload 5, 2) := by decide +kernel
theorem dX15_object_90 : decode cX15_object 90 = .ok (.getfield 149, 3) := by decide +kernel
theorem dX15_object_93 : decode cX15_object 93 = .ok (.iload_n 3, 1) := by decide +kernel
theorem dX15_object_94 : decode cX15_object 94 = .ok (.iastore, 1) := by decide +kernel
theorem dX15_object_95 : decode cX15_object 95 = .ok (.aload 5, 2) := by decide +kernel
theorem dX15_object_97 : decode cX15_object 97 = .ok (.getfield 177, 3) := by decide +kernel
theorem dX15_object_100 : decode cX15_object 100 = .ok (.aload 5, 2) := by decide +kernel
theorem dX15_object_102 : decode cX15_object 102 = .ok (.getfield 149, 3) := by decide +kernel
theorem dX15_object_105 : decode cX15_object 105 = .ok (.iload 4, 2) := by decide +kernel
theorem dX15_object_107 : decode cX15_object 107 = .ok (.iastore, 1) := by decide +kernel
theorem dX15_object_108 : decode cX15_object 108 = .ok (.aload 5, 2) := by decide +kernel
theorem dX15_object_110 : decode cX15_object 110 = .ok (.dup, 1) := by decide +kernel
theorem dX15_object_111 : decode cX15_object 111 = .ok (.getfield 149, 3) := by decide +kernel
theorem dX15_object_114 : decode cX15_object 114 = .ok (.iconst 1, 1) := by decide +kernel
theorem dX15_object_115 : decode cX15_object 115 = .ok (.iadd, 1) := by decide +kernel
theorem dX15_object_116 : decode cX15_object 116 = .ok (.putfield 149, 3) := by decide +kernel
theorem dX15_object_119 : decode cX15_object 119 = .ok (.aload 5, 2) := by decide +kernel
theorem dX15_object_121 : decode cX15_object 121 = .ok (.getfield 149, 3) := by decide +kernel
theorem dX15_object_124 : decode cX15_object 124 = .ok (.iconst 1, 1) := by decide +kernel
theorem dX15_object_125 : decode cX15_object 125 = .ok (.isub, 1) := by decide +kernel
theorem dX15_object_126 : decode cX15_object 126 = .ok (.ireturn, 1) := by decide +kernel
theorem dX15_flags_0 : decode cX15_flags 0 = .ok (.aload_n 0, 1) := by decide +kernel
theorem dX15_flags_1 : decode cX15_flags 1 = .ok (.iconst 0, 1) := by decide +kernel
theorem dX15_flags_2 : decode cX15_flags 2 = .ok (.putfield 93, 3) := by decide +kernel
theorem dX15_flags_5 : decode cX15_flags 5 = .ok (.aload_n 0, 1) := by decide +kernel
theorem dX15_flags_6 : decode cX15_flags 6 = .ok (.iload_n 1, 1) := by decide +kernel
theorem dX15_flags_7 : decode cX15_flags 7 = .ok (.iload_n 2, 1) := by decide +kernel
theorem dX15_flags_8 : decode cX15_flags 8 = .ok (.invokevirtual 409, 3) := by decide +kernel
theorem dX15_flags_11 : decode cX15_flags 11 = .ok (.ifCond .eq 13, 3) := by decide +kernel
theorem dX15_flags_14 : decode cX15_flags 14 = .ok (.iload_n 3, 1) := by decide +kernel
theorem dX15_flags_15 : decode cX15_flags 15 = .ok (.iconst 0, 1) := by decide +kernel
theorem dX15_flags_16 : decode cX15_flags 16 = .ok (.bipush 31, 2) := by decide +kernel
theorem dX15_flags_18 : decode cX15_flags 18 = .ok (.invokestatic 135, 3) := by decide +kernel
theorem dX15_flags_21 : decode cX15_flags 21 = .ok (.ifCond .ne 5, 3) := by decide +kernel
theorem dX15_flags_24 : decode cX15_flags 24 = .ok (.iconst 0, 1) := by decide +kernel
theorem dX15_flags_25 : decode cX15_flags 25 = .ok (.ireturn, 1) := by decide +kernel
theorem dX15_flags_26 : decode cX15_flags 26 = .ok (.aload_n 0, 1) := by decide +kernel
theorem dX15_flags_27 : decode cX15_flags 27 = .ok (.getfield 21, 3) := by decide +kernel
theorem dX15_flags_30 : decode cX15_flags 30 = .ok (.iload_n 1, 1) := by decide +kernel
theorem dX15_flags_31 : decode cX15_flags 31 = .ok (.aaload, 1) := by decide +kernel
theorem dX15_flags_32 : decode cX15_flags 32 = .ok (.getfield 189, 3) := by decide +kernel
theorem dX15_flags_35 : decode cX15_flags 35 = .ok (.iload_n 2, 1) := by decide +kernel
theorem dX15_flags_36 : decode cX15_flags 36 = .ok (.iload_n 3, 1) := by decide +kernel
theorem dX15_flags_37 : decode cX15_flags 37 = .ok (.iastore, 1) := by decide +kernel
theorem dX15_flags_38 : decode cX15_flags 38 = .ok (.iconst 1, 1) := by decide +kernel
theorem dX15_flags_39 : decode cX15_flags 39 = .ok (.ireturn, 1) := by decide +kernel
theorem dX15_link_0 : decode cX15_link 0 = .ok (.aload_n 0, 1) := by decide +kernel
theorem dX15_link_1 : decode cX15_link 1 = .ok (.iconst 0, 1) := by decide +kernel
theorem dX15_link_2 : decode cX15_link 2 = .ok (.putfield 93, 3) := by decide +kernel
theorem dX15_link_5 : decode cX15_link 5 = .ok (.aload_n 0, 1) := by decide +kernel
theorem dX15_link_6 : decode cX15_link 6 = .ok (.iload_n 1, 1) := by decide +kernel
theorem dX15_link_7 : decode cX15_link 7 = .ok (.iload_n 2, 1) := by decide +kernel
theorem dX15_link_8 : decode cX15_link 8 = .ok (.invokevirtual 409, 3) := by decide +kernel
theorem dX15_link_11 : decode cX15_link 11 = .ok (.ifCond .eq 28, 3) := by decide +kernel
theorem dX15_link_14 : decode cX15_link 14 = .ok (.iload_n 3, 1) := by decide +kernel
theorem dX15_link_15 : decode cX15_link 15 = .ok (.iconst 1, 1) := by decide +kernel
theorem dX15_link_16 : decode cX15_link 16 = .ok (.ldc_w 405, 3) := by decide +kernel
theorem dX15_link_19 : decode cX15_link 19 = .ok (.invokestatic 135, 3) := by decide +kernel
theorem dX15_link_22 : decode cX15_link 22 = .ok (.ifCond .eq 17, 3) := by decide +kernel
theorem dX15_link_25 : decode cX15_link 25 = .ok (.aload_n 0, 1) := by decide +kernel
theorem dX15_link_26 : decode cX15_link 26 = .ok (.getfield 21, 3) := by decide +kernel
theorem dX15_link_29 : decode cX15_link 29 = .ok (.iload_n 1, 1) := by decide +kernel
theorem dX15_link_30 : decode cX15_link 30 = .ok (.aaload, 1) := by decide +kernel
theorem dX15_link_31 : decode cX15_link 31 = .ok (.getfield 180, 3) := by decide +kernel
theorem dX15_link_34 : decode cX15_link 34 = .ok (.bipush 24, 2) := by decide +kernel
theorem dX15_link_36 : decode cX15_link 36 = .ok (.if_icmp .ne 5, 3) := by decide +kernel
theorem dX15_link_39 : decode cX15_link 39 = .ok (.iconst 0, 1) := by decide +kernel
theorem dX15_link_40 : decode cX15_link 40 = .ok (.ireturn, 1) := by decide +kernel
theorem dX15_link_41 : decode cX15_link 41 = .ok (.aload_n 0, 1) := by decide +kernel
theorem dX15_link_42 : decode cX15_link 42 = .ok (.getfield 21, 3) := by decide +kernel
theorem dX15_link_45 : decode cX15_link 45 = .ok (.iload_n 1, 1) := by decide +kernel
theorem dX15_link_46 : decode cX15_link 46 = .ok (.aaload, 1) := by decide +kernel
theorem dX15_link_47 : decode cX15_link 47 = .ok (.astore 4, 2) := by decide +kernel
theorem dX15_link_49 : decode cX15_link 49 = .ok (.iconst 0, 1) := by decide +kernel
theorem dX15_link_50 : decode cX15_link 50 = .ok (.istore 5, 2) := by decide +kernel
theorem dX15_link_52 : decode cX15_link 52 = .ok (.iload 5, 2) := by decide +kernel
theorem dX15_link_54 : decode cX15_link 54 = .ok (.aload 4, 2) := by decide +kernel
theorem dX15_link_56 : decode cX15_link 56 = .ok (.getfield 180, 3) := by decide +kernel
theorem dX15_link_59 : decode cX15_link 59 = .ok (.if_icmp .ge 35, 3) := by decide +kernel
theorem dX15_link_62 : decode cX15_link 62 = .ok (.aload 4, 2) := by decide +kernel
theorem dX15_link_64 : decode cX15_link 64 = .ok (.getfield 183, 3) := by decide +kernel
theorem dX15_link_67 : decode cX15_link 67 = .ok (.iload 5, 2) := by decide +kernel
theorem dX15_link_69 : decode cX15_link 69 = .ok (.iaload, 1) := by decide +kernel
theorem dX15_link_70 : decode cX15_link 70 = .ok (.iload_n 2, 1) := by decide +kernel
theorem dX15_link_71 : decode cX15_link 71 = .ok (.if_icmp .ne 17, 3) := by decide +kernel
theorem dX15_link_74 : decode cX15_link 74 = .ok (.aload 4, 2) := by decide +kernel
theorem dX15_link_76 : decode cX15_link 76 = .ok (.getfield 186, 3) := by decide +kernel
theorem dX15_link_79 : decode cX15_link 79 = .ok (.iload 5, 2) := by decide +kernel
theorem dX15_link_81 : decode cX15_link 81 = .ok (.iaload, 1) := by decide +kernel
theorem dX15_link_82 : decode cX15_link 82 = .ok (.iload_n 3, 1) := by decide +kernel
theorem dX15_link_83 : decode cX15_link 83 = .ok (.if_icmp .ne 5, 3) := by decide +kernel
theorem dX15_link_86 : decode cX15_link 86 = .ok (.iconst 0, 1) := by decide +kernel
theorem dX15_link_87 : decode cX15_link 87 = .ok (.ireturn, 1) := by decide +kernel
theorem dX15_link_88 : decode cX15_link 88 = .ok (.iinc 5 1, 3) := by decide +kernel
theorem dX15_link_91 : decode cX15_link 91 = .ok (.goto (-39), 3) := by decide +kernel
theorem dX15_link_94 : decode cX15_link 94 = .ok (.aload 4, 2) := by decide +kernel
theorem dX15_link_96 : decode cX15_link 96 = .ok (.getfield 183, 3) := by decide +kernel
theorem dX15_link_99 : decode cX15_link 99 = .ok (.aload 4, 2) := by decide +kernel
theorem dX15_link_101 : decode cX15_link 101 = .ok (.getfield 180, 3) := by decide +kernel
theorem dX15_link_104 : decode cX15_link 104 = .ok (.iload_n 2, 1) := by decide +kernel
theorem dX15_link_105 : decode cX15_link 105 = .ok (.iastore, 1) := by decide +kernel
theorem dX15_link_106 : decode cX15_link 106 = .ok (.aload 4, 2) := by decide +kernel
theorem dX15_link_108 : decode cX15_link 108 = .ok (.getfield 186, 3) := by decide +kernel
theorem dX15_link_111 : decode cX15_link 111 = .ok (.aload 4, 2) := by decide +kernel
theorem dX15_link_113 : decode cX15_link 113 = .ok (.getfield 180, 3) := by decide +kernel
theorem dX15_link_116 : decode cX15_link 116 = .ok (.iload_n 3, 1) := by decide +kernel
theorem dX15_link_117 : decode cX15_link 117 = .ok (.iastore, 1) := by decide +kernel
theorem dX15_link_118 : decode cX15_link 118 = .ok (.aload 4, 2) := by decide +kernel
theorem dX15_link_120 : decode cX15_link 120 = .ok (.dup, 1) := by decide +kernel
theorem dX15_link_121 : decode cX15_link 121 = .ok (.getfield 180, 3) := by decide +kernel
theorem dX15_link_124 : decode cX15_link 124 = .ok (.iconst 1, 1) := by decide +kernel
theorem dX15_link_125 : decode cX15_link 125 = .ok (.iadd, 1) := by decide +kernel
theorem dX15_link_126 : decode cX15_link 126 = .ok (.putfield 180, 3) := by decide +kernel
theorem dX15_link_129 : decode cX15_link 129 = .ok (.iconst 1, 1) := by decide +kernel
theorem dX15_link_130 : decode cX15_link 130 = .ok (.ireturn, 1) := by decide +kernel
theorem dX15_set_0 : decode cX15_set 0 = .ok (.aload_n 0, 1) := by decide +kernel
theorem dX15_set_1 : decode cX15_set 1 = .ok (.iconst 0, 1) := by decide +kernel
theorem dX15_set_2 : decode cX15_set 2 = .ok (.putfield 93, 3) := by decide +kernel
theorem dX15_set_5 : decode cX15_set 5 = .ok (.aload_n 0, 1) := by decide +kernel
theorem dX15_set_6 : decode cX15_set 6 = .ok (.iload_n 1, 1) := by decide +kernel
theorem dX15_set_7 : decode cX15_set 7 = .ok (.iload_n 2, 1) := by decide +kernel
theorem dX15_set_8 : decode cX15_set 8 = .ok (.invokevirtual 409, 3) := by decide +kernel
theorem dX15_set_11 : decode cX15_set 11 = .ok (.ifCond .eq 18, 3) := by decide +kernel
theorem dX15_set_14 : decode cX15_set 14 = .ok (.aload_n 0, 1) := by decide +kernel
theorem dX15_set_15 : decode cX15_set 15 = .ok (.aload_n 0, 1) := by decide +kernel
theorem dX15_set_16 : decode cX15_set 16 = .ok (.getfield 21, 3) := by decide +kernel
theorem dX15_set_19 : decode cX15_set 19 = .ok (.iload_n 1, 1) := by decide +kernel
theorem dX15_set_20 : decode cX15_set 20 = .ok (.aaload, 1) := by decide +kernel
theorem dX15_set_21 : decode cX15_set 21 = .ok (.iload_n 2, 1) := by decide +kernel
theorem dX15_set_22 : decode cX15_set 22 = .ok (.iload_n 3, 1) := by decide +kernel
theorem dX15_set_23 : decode cX15_set 23 = .ok (.invokevirtual 417, 3) := by decide +kernel
theorem dX15_set_26 : decode cX15_set 26 = .ok (.goto 4, 3) := by decide +kernel
theorem dX15_set_29 : decode cX15_set 29 = .ok (.iconst (-1), 1) := by decide +kernel
theorem dX15_set_30 : decode cX15_set 30 = .ok (.ireturn, 1) := by decide +kernel
theorem dX15_ask_0 : decode cX15_ask 0 = .ok (.aload_n 0, 1) := by decide +kernel
theorem dX15_ask_1 : decode cX15_ask 1 = .ok (.iconst 0, 1) := by decide +kernel
theorem dX15_ask_2 : decode cX15_ask 2 = .ok (.putfield 93, 3) := by decide +kernel
theorem dX15_ask_5 : decode cX15_ask 5 = .ok (.aload_n 0, 1) := by decide +kernel
theorem dX15_ask_6 : decode cX15_ask 6 = .ok (.iload_n 1, 1) := by decide +kernel
theorem dX15_ask_7 : decode cX15_ask 7 = .ok (.iload_n 2, 1) := by decide +kernel
theorem dX15_ask_8 : decode cX15_ask 8 = .ok (.invokevirtual 409, 3) := by decide +kernel
theorem dX15_ask_11 : decode cX15_ask 11 = .ok (.ifCond .ne 5, 3) := by decide +kernel
theorem dX15_ask_14 : decode cX15_ask 14 = .ok (.iconst (-1), 1) := by decide +kernel
theorem dX15_ask_15 : decode cX15_ask 15 = .ok (.ireturn, 1) := by decide +kernel
theorem dX15_ask_16 : decode cX15_ask 16 = .ok (.aload_n 0, 1) := by decide +kernel
theorem dX15_ask_17 : decode cX15_ask 17 = .ok (.getfield 21, 3) := by decide +kernel
theorem dX15_ask_20 : decode cX15_ask 20 = .ok (.iload_n 1, 1) := by decide +kernel
theorem dX15_ask_21 : decode cX15_ask 21 = .ok (.aaload, 1) := by decide +kernel
theorem dX15_ask_22 : decode cX15_ask 22 = .ok (.astore_n 3, 1) := by decide +kernel
theorem dX15_ask_23 : decode cX15_ask 23 = .ok (.aload_n 3, 1) := by decide +kernel
theorem dX15_ask_24 : decode cX15_ask 24 = .ok (.iload_n 2, 1) := by decide +kernel
theorem dX15_ask_25 : decode cX15_ask 25 = .ok (.invokestatic 413, 3) := by decide +kernel
theorem dX15_ask_28 : decode cX15_ask 28 = .ok (.istore 4, 2) := by decide +kernel
theorem dX15_ask_30 : decode cX15_ask 30 = .ok (.aload_n 3, 1) := by decide +kernel
theorem dX15_ask_31 : decode cX15_ask 31 = .ok (.getfield 189, 3) := by decide +kernel
theorem dX15_ask_34 : decode cX15_ask 34 = .ok (.iload_n 2, 1) := by decide +kernel
theorem dX15_ask_35 : decode cX15_ask 35 = .ok (.iaload, 1) := by decide +kernel
theorem dX15_ask_36 : decode cX15_ask 36 = .ok (.bipush 9, 2) := by decide +kernel
theorem dX15_ask_38 : decode cX15_ask 38 = .ok (.iand, 1) := by decide +kernel
theorem dX15_ask_39 : decode cX15_ask 39 = .ok (.bipush 9, 2) := by decide +kernel
theorem dX15_ask_41 : decode cX15_ask 41 = .ok (.if_icmp .ne 9, 3) := by decide +kernel
theorem dX15_ask_44 : decode cX15_ask 44 = .ok (.iload 4, 2) := by decide +kernel
theorem dX15_ask_46 : decode cX15_ask 46 = .ok (.iconst (-1), 1) := by decide +kernel
theorem dX15_ask_47 : decode cX15_ask 47 = .ok (.if_icmp .ne 5, 3) := by decide +kernel
theorem dX15_ask_50 : decode cX15_ask 50 = .ok (.iconst (-1), 1) := by decide +kernel
theorem dX15_ask_51 : decode cX15_ask 51 = .ok (.ireturn, 1) := by decide +kernel
theorem dX15_ask_52 : decode cX15_ask 52 = .ok (.aload_n 3, 1) := by decide +kernel
theorem dX15_ask_53 : decode cX15_ask 53 = .ok (.getfield 155, 3) := by decide +kernel
theorem dX15_ask_56 : decode cX15_ask 56 = .ok (.getfield 96, 3) := by decide +kernel
theorem dX15_ask_59 : decode cX15_ask 59 = .ok (.bipush 8, 2) := by decide +kernel
theorem dX15_ask_61 : decode cX15_ask 61 = .ok (.if_icmp .ne 6, 3) := by decide +kernel
theorem dX15_ask_64 : decode cX15_ask 64 = .ok (.bipush (-2), 2) := by decide +kernel
theorem dX15_ask_66 : decode cX15_ask 66 = .ok (.ireturn, 1) := by decide +kernel
theorem dX15_ask_67 : decode cX15_ask 67 = .ok (.aload_n 0, 1) := by decide +kernel
theorem dX15_ask_68 : decode cX15_ask 68 = .ok (.getfield 37, 3) := by decide +kernel
theorem dX15_ask_71 : decode cX15_ask 71 = .ok (.iconst 0, 1) := by decide +kernel
theorem dX15_ask_72 : decode cX15_ask 72 = .ok (.iconst 0, 1) := by decide +kernel
theorem dX15_ask_73 : decode cX15_ask 73 = .ok (.iastore, 1) := by decide +kernel
theorem dX15_ask_74 : decode cX15_ask 74 = .ok (.aload_n 0, 1) := by decide +kernel
theorem dX15_ask_75 : decode cX15_ask 75 = .ok (.getfield 37, 3) := by decide +kernel
theorem dX15_ask_78 : decode cX15_ask 78 = .ok (.iconst 1, 1) := by decide +kernel
theorem dX15_ask_79 : decode cX15_ask 79 = .ok (.iconst 0, 1) := by decide +kernel
theorem dX15_ask_80 : decode cX15_ask 80 = .ok (.iastore, 1) := by decide +kernel
theorem dX15_ask_81 : decode cX15_ask 81 = .ok (.aload_n 0, 1) := by decide +kernel
theorem dX15_ask_82 : decode cX15_ask 82 = .ok (.aload_n 3, 1) := by decide +kernel
theorem dX15_ask_83 : decode cX15_ask 83 = .ok (.aload_n 3, 1) := by decide +kernel
theorem dX15_ask_84 : decode cX15_ask 84 = .ok (.getfield 177, 3) := by decide +kernel
theorem dX15_ask_87 : decode cX15_ask 87 = .ok (.iload_n 2, 1) := by decide +kernel
theorem dX15_ask_88 : decode cX15_ask 88 = .ok (.iaload, 1) := by decide +kernel
theorem dX15_ask_89 : decode cX15_ask 89 = .ok (.iconst 1, 1) := by decide +kernel
theorem dX15_ask_90 : decode cX15_ask 90 = .ok (.iload 4, 2) := by decide +kernel
theorem dX15_ask_92 : decode cX15_ask 92 = .ok (.aload_n 0, 1) := by decide +kernel
theorem dX15_ask_93 : decode cX15_ask 93 = .ok (.getfield 37, 3) := by decide +kernel
theorem dX15_ask_96 : decode cX15_ask 96 = .ok (.iconst 2, 1) := by decide +kernel
theorem dX15_ask_97 : decode cX15_ask 97 = .ok (.invokevirtual 163, 3) := by decide +kernel
theorem dX15_ask_100 : decode cX15_ask 100 = .ok (.istore 5, 2) := by decide +kernel
theorem dX15_ask_102 : decode cX15_ask 102 = .ok (.aload_n 3, 1) := by decide +kernel
theorem dX15_ask_103 : decode cX15_ask 103 = .ok (.getfield 155, 3) := by decide +kernel
theorem dX15_ask_106 : decode cX15_ask 106 = .ok (.getfield 96, 3) := by decide +kernel
theorem dX15_ask_109 : decode cX15_ask 109 = .ok (.ireturn, 1) := by decide +kernel
theorem dX15_value_0 : decode cX15_value 0 = .ok (.aload_n 0, 1) := by decide +kernel
theorem dX15_value_1 : decode cX15_value 1 = .ok (.iconst 0, 1) := by decide +kernel
theorem dX15_value_2 : decode cX15_value 2 = .ok (.putfield 93, 3) := by decide +kernel
theorem dX15_value_5 : decode cX15_value 5 = .ok (.aload_n 0, 1) := by decide +kernel
theorem dX15_value_6 : decode cX15_value 6 = .ok (.iload_n 1, 1) := by decide +kernel
theorem dX15_value_7 : decode cX15_value 7 = .ok (.iload_n 2, 1) := by decide +kernel
theorem dX15_value_8 : decode cX15_value 8 = .ok (.invokevirtual 409, 3) := by decide +kernel
theorem dX15_value_11 : decode cX15_value 11 = .ok (.ifCond .eq 22, 3) := by decide +kernel
theorem dX15_value_14 : decode cX15_value 14 = .ok (.aload_n 0, 1) := by decide +kernel
theorem dX15_value_15 : decode cX15_value 15 = .ok (.getfield 21, 3) := by decide +kernel
theorem dX15_value_18 : decode cX15_value 18 = .ok (.iload_n 1, 1) := by decide +kernel
theorem dX15_value_19 : decode cX15_value 19 = .ok (.aaload, 1) := by decide +kernel
theorem dX15_value_20 : decode cX15_value 20 = .ok (.getfield 174, 3) := by decide +kernel
theorem dX15_value_23 : decode cX15_value 23 = .ok (.iload_n 2, 1) := by decide +kernel
theorem dX15_value_24 : decode cX15_value 24 = .ok (.iaload, 1) := by decide +kernel
theorem dX15_value_25 : decode cX15_value 25 = .ok (.i2l, 1) := by decide +kernel
theorem dX15_value_26 : decode cX15_value 26 = .ok (.ldc2_w 420, 3) := by decide +kernel
theorem dX15_value_29 : decode cX15_value 29 = .ok (.land, 1) := by decide +kernel
theorem dX15_value_30 : decode cX15_value 30 = .ok (.goto 6, 3) := by decide +kernel
theorem dX15_value_33 : decode cX15_value 33 = .ok (.ldc2_w 422, 3) := by decide +kernel
theorem dX15_value_36 : decode cX15_value 36 = .ok (.lreturn, 1) := by decide +kernel
theorem dX15_updated_0 : decode cX15_updated 0 = .ok (.aload_n 0, 1) := by decide +kernel
theorem dX15_updated_1 : decode cX15_updated 1 = .ok (.iconst 0, 1) := by decide +kernel
theorem dX15_updated_2 : decode cX15_updated 2 = .ok (.putfield 93, 3) := by decide +kernel
theorem dX15_updated_5 : decode cX15_updated 5 = .ok (.aload_n 0, 1) := by decide +kernel
theorem dX15_updated_6 : decode cX15_updated 6 = .ok (.iload_n 1, 1) := by decide +kernel
theorem dX15_updated_7 : decode cX15_updated 7 = .ok (.iload_n 2, 1) := by decide +kernel
theorem dX15_updated_8 : decode cX15_updated 8 = .ok (.invokevirtual 409, 3) := by decide +kernel
theorem dX15_updated_11 : decode cX15_updated 11 = .ok (.ifCond .eq 17, 3) := by decide +kernel
theorem dX15_updated_14 : decode cX15_updated 14 = .ok (.aload_n 0, 1) := by decide +kernel
theorem dX15_updated_15 : decode cX15_updated 15 = .ok (.getfield 21, 3) := by decide +kernel
theorem dX15_updated_18 : decode cX15_updated 18 = .ok (.iload_n 1, 1) := by decide +kernel
theorem dX15_updated_19 : decode cX15_updated 19 = .ok (.aaload, 1) := by decide +kernel
theorem dX15_updated_20 : decode cX15_updated 20 = .ok (.getfield 200, 3) := by decide +kernel
theorem dX15_updated_23 : decode cX15_updated 23 = .ok (.iload_n 2, 1) := by decide +kernel
theorem dX15_updated_24 : decode cX15_updated 24 = .ok (.iaload, 1) := by decide +kernel
theorem dX15_updated_25 : decode cX15_updated 25 = .ok (.goto 4, 3) := by decide +kernel
theorem dX15_updated_28 : decode cX15_updated 28 = .ok (.iconst (-1), 1) := by decide +kernel
theorem dX15_updated_29 : decode cX15_updated 29 = .ok (.ireturn, 1) := by decide +kernel
theorem dX15_hundredths_0 : decode cX15_hundredths 0 = .ok (.aload_n 0, 1) := by decide +kernel
theorem dX15_hundredths_1 : decode cX15_hundredths 1 = .ok (.iconst 0, 1) := by decide +kernel
theorem dX15_hundredths_2 : decode cX15_hundredths 2 = .ok (.putfield 93, 3) := by decide +kernel
theorem dX15_hundredths_5 : decode cX15_hundredths 5 = .ok (.aload_n 0, 1) := by decide +kernel
theorem dX15_hundredths_6 : decode cX15_hundredths 6 = .ok (.iload_n 1, 1) := by decide +kernel
theorem dX15_hundredths_7 : decode cX15_hundredths 7 = .ok (.iload_n 2, 1) := by decide +kernel
theorem dX15_hundredths_8 : decode cX15_hundredths 8 = .ok (.invokevirtual 409, 3) := by decide +kernel
theorem dX15_hundredths_11 : decode cX15_hundredths 11 = .ok (.ifCond .eq 19, 3) := by decide +kernel
theorem dX15_hundredths_14 : decode cX15_hundredths 14 = .ok (.aload_n 0, 1) := by decide +kernel
theorem dX15_hundredths_15 : decode cX15_hundredths 15 = .ok (.getfield 21, 3) := by decide +kernel
theorem dX15_hundredths_18 : decode cX15_hundredths 18 = .ok (.iload_n 1, 1) := by decide +kernel
theorem dX15_hundredths_19 : decode cX15_hundredths 19 = .ok (.aaload, 1) := by decide +kernel
theorem dX15_hundredths_20 : decode cX15_hundredths 20 = .ok (.getfield 167, 3) := by decide +kernel
theorem dX15_hundredths_23 : decode cX15_hundredths 23 = .ok (.iload_n 2, 1) := by decide +kernel
theorem dX15_hundredths_24 : decode cX15_hundredths 24 = .ok (.iaload, 1) := by decide +kernel
theorem dX15_hundredths_25 : decode cX15_hundredths 25 = .ok (.bipush 16, 2) := by decide +kernel
theorem dX15_hundredths_27 : decode cX15_hundredths 27 = .ok (.if_icmp .eq 7, 3) := by decide +kernel
theorem dX15_hundredths_30 : decode cX15_hundredths 30 = .ok (.ldc2_w 426, 3) := by decide +kernel
theorem dX15_hundredths_33 : decode cX15_hundredths 33 = .ok (.lreturn, 1) := by decide +kernel
theorem dX15_hundredths_34 : decode cX15_hundredths 34 = .ok (.aload_n 0, 1) := by decide +kernel
theorem dX15_hundredths_35 : decode cX15_hundredths 35 = .ok (.getfield 21, 3) := by decide +kernel
theorem dX15_hundredths_38 : decode cX15_hundredths 38 = .ok (.iload_n 1, 1) := by decide +kernel
theorem dX15_hundredths_39 : decode cX15_hundredths 39 = .ok (.aaload, 1) := by decide +kernel
theorem dX15_hundredths_40 : decode cX15_hundredths 40 = .ok (.getfield 174, 3) := by decide +kernel
theorem dX15_hundredths_43 : decode cX15_hundredths 43 = .ok (.iload_n 2, 1) := by decide +kernel
theorem dX15_hundredths_44 : decode cX15_hundredths 44 = .ok (.iaload, 1) := by decide +kernel
theorem dX15_hundredths_45 : decode cX15_hundredths 45 = .ok (.istore_n 3, 1) := by decide +kernel
theorem dX15_hundredths_46 : decode cX15_hundredths 46 = .ok (.iload_n 3, 1) := by decide +kernel
theorem dX15_hundredths_47 : decode cX15_hundredths 47 = .ok (.sipush 2048, 3) := by decide +kernel
theorem dX15_hundredths_50 : decode cX15_hundredths 50 = .ok (.irem, 1) := by decide +kernel
theorem dX15_hundredths_51 : decode cX15_hundredths 51 = .ok (.iload_n 3, 1) := by decide +kernel
theorem dX15_hundredths_52 : decode cX15_hundredths 52 = .ok (.ldc_w 428, 3) := by decide +kernel
theorem dX15_hundredths_55 : decode cX15_hundredths 55 = .ok (.if_icmp .lt 9, 3) := by decide +kernel
theorem dX15_hundredths_58 : decode cX15_hundredths 58 = .ok (.sipush 2048, 3) := by decide +kernel
theorem dX15_hundredths_61 : decode cX15_hundredths 61 = .ok (.goto 4, 3) := by decide +kernel
theorem dX15_hundredths_64 : decode cX15_hundredths 64 = .ok (.iconst 0, 1) := by decide +kernel
theorem dX15_hundredths_65 : decode cX15_hundredths 65 = .ok (.isub, 1) := by decide +kernel
theorem dX15_hundredths_66 : decode cX15_hundredths 66 = .ok (.istore 4, 2) := by decide +kernel
theorem dX15_hundredths_68 : decode cX15_hundredths 68 = .ok (.iload 4, 2) := by decide +kernel
theorem dX15_hundredths_70 : decode cX15_hundredths 70 = .ok (.i2l, 1) := by decide +kernel
theorem dX15_hundredths_71 : decode cX15_hundredths 71 = .ok (.iconst 1, 1) := by decide +kernel
theorem dX15_hundredths_72 : decode cX15_hundredths 72 = .ok (.iload_n 3, 1) := by decide +kernel
theorem dX15_hundredths_73 : decode cX15_hundredths 73 = .ok (.sipush 2048, 3) := by decide +kernel
theorem dX15_hundredths_76 : decode cX15_hundredths 76 = .ok (.idiv, 1) := by decide +kernel
theorem dX15_hundredths_77 : decode cX15_hundredths 77 = .ok (.bipush 16, 2) := by decide +kernel
theorem dX15_hundredths_79 : decode cX15_hundredths 79 = .ok (.irem, 1) := by decide +kernel
theorem dX15_hundredths_80 : decode cX15_hundredths 80 = .ok (.ishl, 1) := by decide +kernel
theorem dX15_hundredths_81 : decode cX15_hundredths 81 = .ok (.i2l, 1) := by decide +kernel
theorem dX15_hundredths_82 : decode cX15_hundredths 82 = .ok (.lmul, 1) := by decide +kernel
theorem dX15_hundredths_83 : decode cX15_hundredths 83 = .ok (.lreturn, 1) := by decide +kernel
theorem dX15_point_0 : decode cX15_point 0 = .ok (.aload_n 0, 1) := by decide +kernel
theorem dX15_point_1 : decode cX15_point 1 = .ok (.iconst 0, 1) := by decide +kernel
theorem dX15_point_2 : decode cX15_point 2 = .ok (.putfield 93, 3) := by decide +kernel
theorem dX15_point_5 : decode cX15_point 5 = .ok (.aload_n 0, 1) := by decide +kernel
theorem dX15_point_6 : decode cX15_point 6 = .ok (.iload_n 1, 1) := by decide +kernel
theorem dX15_point_7 : decode cX15_point 7 = .ok (.iload_n 2, 1) := by decide +kernel
theorem dX15_point_8 : decode cX15_point 8 = .ok (.invokevirtual 409, 3) := by decide +kernel
theorem dX15_point_11 : decode cX15_point 11 = .ok (.ifCond .eq 19, 3) := by decide +kernel
theorem dX15_point_14 : decode cX15_point 14 = .ok (.aload_n 0, 1) := by decide +kernel
theorem dX15_point_15 : decode cX15_point 15 = .ok (.getfield 21, 3) := by decide +kernel
theorem dX15_point_18 : decode cX15_point 18 = .ok (.iload_n 1, 1) := by decide +kernel
theorem dX15_point_19 : decode cX15_point 19 = .ok (.aaload, 1) := by decide +kernel
theorem dX15_point_20 : decode cX15_point 20 = .ok (.getfield 167, 3) := by decide +kernel
theorem dX15_point_23 : decode cX15_point 23 = .ok (.iload_n 2, 1) := by decide +kernel
theorem dX15_point_24 : decode cX15_point 24 = .ok (.iaload, 1) := by decide +kernel
theorem dX15_point_25 : decode cX15_point 25 = .ok (.bipush 16, 2) := by decide +kernel
theorem dX15_point_27 : decode cX15_point 27 = .ok (.if_icmp .eq 5, 3) := by decide +kernel
theorem dX15_point_30 : decode cX15_point 30 = .ok (.iconst (-1), 1) := by decide +kernel
theorem dX15_point_31 : decode cX15_point 31 = .ok (.ireturn, 1) := by decide +kernel
theorem dX15_point_32 : decode cX15_point 32 = .ok (.iconst 0, 1) := by decide +kernel
theorem dX15_point_33 : decode cX15_point 33 = .ok (.istore 4, 2) := by decide +kernel
theorem dX15_point_35 : decode cX15_point 35 = .ok (.iload 4, 2) := by decide +kernel
theorem dX15_point_37 : decode cX15_point 37 = .ok (.bipush 16, 2) := by decide +kernel
theorem dX15_point_39 : decode cX15_point 39 = .ok (.if_icmp .ge 67, 3) := by decide +kernel
theorem dX15_point_42 : decode cX15_point 42 = .ok (.iload_n 3, 1) := by decide +kernel
theorem dX15_point_43 : decode cX15_point 43 = .ok (.iload 4, 2) := by decide +kernel
theorem dX15_point_45 : decode cX15_point 45 = .ok (.ishr, 1) := by decide +kernel
theorem dX15_point_46 : decode cX15_point 46 = .ok (.istore 5, 2) := by decide +kernel
theorem dX15_point_48 : decode cX15_point 48 = .ok (.iload 5, 2) := by decide +kernel
theorem dX15_point_50 : decode cX15_point 50 = .ok (.sipush (-2048), 3) := by decide +kernel
theorem dX15_point_53 : decode cX15_point 53 = .ok (.sipush 2047, 3) := by decide +kernel
theorem dX15_point_56 : decode cX15_point 56 = .ok (.invokestatic 135, 3) := by decide +kernel
theorem dX15_point_59 : decode cX15_point 59 = .ok (.ifCond .eq 41, 3) := by decide +kernel
theorem dX15_point_62 : decode cX15_point 62 = .ok (.aload_n 0, 1) := by decide +kernel
theorem dX15_point_63 : decode cX15_point 63 = .ok (.aload_n 0, 1) := by decide +kernel
theorem dX15_point_64 : decode cX15_point 64 = .ok (.getfield 21, 3) := by decide +kernel
theorem dX15_point_67 : decode cX15_point 67 = .ok (.iload_n 1, 1) := by decide +kernel
theorem dX15_point_68 : decode cX15_point 68 = .ok (.aaload, 1) := by decide +kernel
theorem dX15_point_69 : decode cX15_point 69 = .ok (.iload_n 2, 1) := by decide +kernel
theorem dX15_point_70 : decode cX15_point 70 = .ok (.iload 5, 2) := by decide +kernel
theorem dX15_point_72 : decode cX15_point 72 = .ok (.ifCond .ge 9, 3) := by decide +kernel
theorem dX15_point_75 : decode cX15_point 75 = .ok (.ldc_w 428, 3) := by decide +kernel
theorem dX15_point_78 : decode cX15_point 78 = .ok (.goto 4, 3) := by decide +kernel
theorem dX15_point_81 : decode cX15_point 81 = .ok (.iconst 0, 1) := by decide +kernel
theorem dX15_point_82 : decode cX15_point 82 = .ok (.sipush 2048, 3) := by decide +kernel
theorem dX15_point_85 : decode cX15_point 85 = .ok (.iload 4, 2) := by decide +kernel
theorem dX15_point_87 : decode cX15_point 87 = .ok (.imul, 1) := by decide +kernel
theorem dX15_point_88 : decode cX15_point 88 = .ok (.iadd, 1) := by decide +kernel
theorem dX15_point_89 : decode cX15_point 89 = .ok (.iload 5, 2) := by decide +kernel
theorem dX15_point_91 : decode cX15_point 91 = .ok (.sipush 2047, 3) := by decide +kernel
theorem dX15_point_94 : decode cX15_point 94 = .ok (.iand, 1) := by decide +kernel
theorem dX15_point_95 : decode cX15_point 95 = .ok (.iadd, 1) := by decide +kernel
theorem dX15_point_96 : decode cX15_point 96 = .ok (.invokevirtual 417, 3) := by decide +kernel
theorem dX15_point_99 : decode cX15_point 99 = .ok (.ireturn, 1) := by decide +kernel
theorem dX15_point_100 : decode cX15_point 100 = .ok (.iinc 4 1, 3) := by decide +kernel
theorem dX15_point_103 : decode cX15_point 103 = .ok (.goto (-68), 3) := by decide +kernel
theorem dX15_point_106 : decode cX15_point 106 = .ok (.iconst (-1), 1) := by decide +kernel
theorem dX15_point_107 : decode cX15_point 107 = .ok (.ireturn, 1) := by decide +kernel
theorem dX15_connect_0 : decode cX15_connect 0 = .ok (.aload_n 0, 1) := by decide +kernel
theorem dX15_connect_1 : decode cX15_connect 1 = .ok (.iconst 0, 1) := by decide +kernel
theorem dX15_connect_2 : decode cX15_connect 2 = .ok (.putfield 93, 3) := by decide +kernel
theorem dX15_connect_5 : decode cX15_connect 5 = .ok (.aload_n 0, 1) := by decide +kernel
theorem dX15_connect_6 : decode cX15_connect 6 = .ok (.iload_n 1, 1) := by decide +kernel
theorem dX15_connect_7 : decode cX15_connect 7 = .ok (.invokevirtual 145, 3) := by decide +kernel
theorem dX15_connect_10 : decode cX15_connect 10 = .ok (.ifCond .eq 43, 3) := by decide +kernel
theorem dX15_connect_13 : decode cX15_connect 13 = .ok (.iload_n 2, 1) := by decide +kernel
theorem dX15_connect_14 : decode cX15_connect 14 = .ok (.iconst 0, 1) := by decide +kernel
theorem dX15_connect_15 : decode cX15_connect 15 = .ok (.ldc_w 405, 3) := by decide +kernel
theorem dX15_connect_18 : decode cX15_connect 18 = .ok (.invokestatic 135, 3) := by decide +kernel
theorem dX15_connect_21 : decode cX15_connect 21 = .ok (.ifCond .eq 32, 3) := by decide +kernel
theorem dX15_connect_24 : decode cX15_connect 24 = .ok (.aload_n 0, 1) := by decide +kernel
theorem dX15_connect_25 : decode cX15_connect 25 = .ok (.getfield 21, 3) := by decide +kernel
theorem dX15_connect_28 : decode cX15_connect 28 = .ok (.iload_n 1, 1) := by decide +kernel
theorem dX15_connect_29 : decode cX15_connect 29 = .ok (.aaload, 1) := by decide +kernel
theorem dX15_connect_30 : decode cX15_connect 30 = .ok (.getfield 210, 3) := by decide +kernel
theorem dX15_connect_33 : decode cX15_connect 33 = .ok (.ifCond .ne 20, 3) := by decide +kernel
theorem dX15_connect_36 : decode cX15_connect 36 = .ok (.aload_n 0, 1) := by decide +kernel
theorem dX15_connect_37 : decode cX15_connect 37 = .ok (.getfield 21, 3) := by decide +kernel
theorem dX15_connect_40 : decode cX15_connect 40 = .ok (.iload_n 1, 1) := by decide +kernel
theorem dX15_connect_41 : decode cX15_connect 41 = .ok (.aaload, 1) := by decide +kernel
theorem dX15_connect_42 : decode cX15_connect 42 = .ok (.getfield 155, 3) := by decide +kernel
theorem dX15_connect_45 : decode cX15_connect 45 = .ok (.getfield 96, 3) := by decide +kernel
theorem dX15_connect_48 : decode cX15_connect 48 = .ok (.bipush 8, 2) := by decide +kernel
theorem dX15_connect_50 : decode cX15_connect 50 = .ok (.if_icmp .ne 5, 3) := by decide +kernel
theorem dX15_connect_53 : decode cX15_connect 53 = .ok (.iconst 0, 1) := by decide +kernel
theorem dX15_connect_54 : decode cX15_connect 54 = .ok (.ireturn, 1) := by decide +kernel
theorem dX15_connect_55 : decode cX15_connect 55 = .ok (.aload_n 0, 1) := by decide +kernel
theorem dX15_connect_56 : decode cX15_connect 56 = .ok (.getfield 21, 3) := by decide +kernel
theorem dX15_connect_59 : decode cX15_connect 59 = .ok (.iload_n 1, 1) := by decide +kernel
theorem dX15_connect_60 : decode cX15_connect 60 = .ok (.aaload, 1) := by decide +kernel
theorem dX15_connect_61 : decode cX15_connect 61 = .ok (.astore_n 3, 1) := by decide +kernel
theorem dX15_connect_62 : decode cX15_connect 62 = .ok (.aload_n 3, 1) := by decide +kernel
theorem dX15_connect_63 : decode cX15_connect 63 = .ok (.iconst 3, 1) := by decide +kernel
theorem dX15_connect_64 : decode cX15_connect 64 = .ok (.putfield 210, 3) := by decide +kernel
theorem dX15_connect_67 : decode cX15_connect 67 = .ok (.aload_n 3, 1) := by decide +kernel
theorem dX15_connect_68 : decode cX15_connect 68 = .ok (.iload_n 2, 1) := by decide +kernel
theorem dX15_connect_69 : decode cX15_connect 69 = .ok (.putfield 203, 3) := by decide +kernel
theorem dX15_connect_72 : decode cX15_connect 72 = .ok (.aload_n 3, 1) := by decide +kernel
theorem dX15_connect_73 : decode cX15_connect 73 = .ok (.iconst 0, 1) := by decide +kernel
theorem dX15_connect_74 : decode cX15_connect 74 = .ok (.putfield 216, 3) := by decide +kernel
theorem dX15_connect_77 : decode cX15_connect 77 = .ok (.aload_n 3, 1) := by decide +kernel
theorem dX15_connect_78 : decode cX15_connect 78 = .ok (.iconst 0, 1) := by decide +kernel
theorem dX15_connect_79 : decode cX15_connect 79 = .ok (.putfield 246, 3) := by decide +kernel
theorem dX15_connect_82 : decode cX15_connect 82 = .ok (.aload_n 3, 1) := by decide +kernel
theorem dX15_connect_83 : decode cX15_connect 83 = .ok (.aload_n 0, 1) := by decide +kernel
theorem dX15_connect_84 : decode cX15_connect 84 = .ok (.aload_n 3, 1) := by decide +kernel
theorem dX15_connect_85 : decode cX15_connect 85 = .ok (.iload_n 2, 1) := by decide +kernel
theorem dX15_connect_86 : decode cX15_connect 86 = .ok (.sipush 128, 3) := by decide +kernel
theorem dX15_connect_89 : decode cX15_connect 89 = .ok (.invokevirtual 206, 3) := by decide +kernel
theorem dX15_connect_92 : decode cX15_connect 92 = .ok (.putfield 396, 3) := by decide +kernel
theorem dX15_connect_95 : decode cX15_connect 95 = .ok (.iconst 1, 1) := by decide +kernel
theorem dX15_connect_96 : decode cX15_connect 96 = .ok (.ireturn, 1) := by decide +kernel
theorem dX15_disconnect_0 : decode cX15_disconnect 0 = .ok (.aload_n 0, 1) := by decide +kernel
theorem dX15_disconnect_1 : decode cX15_disconnect 1 = .ok (.iconst 0, 1) := by decide +kernel
theorem dX15_disconnect_2 : decode cX15_disconnect 2 = .ok (.putfield 93, 3) := by decide +kernel
theorem dX15_disconnect_5 : decode cX15_disconnect 5 = .ok (.aload_n 0, 1) := by decide +kernel
theorem dX15_disconnect_6 : decode cX15_disconnect 6 = .ok (.iload_n 1, 1) := by decide +kernel
theorem dX15_disconnect_7 : decode cX15_disconnect 7 = .ok (.invokevirtual 145, 3) := by decide +kernel
theorem dX15_disconnect_10 : decode cX15_disconnect 10 = .ok (.ifCond .eq 15, 3) := by decide +kernel
theorem dX15_disconnect_13 : decode cX15_disconnect 13 = .ok (.aload_n 0, 1) := by decide +kernel
theorem dX15_disconnect_14 : decode cX15_disconnect 14 = .ok (.getfield 21, 3) := by decide +kernel
theorem dX15_disconnect_17 : decode cX15_disconnect 17 = .ok (.iload_n 1, 1) := by decide +kernel
theorem dX15_disconnect_18 : decode cX15_disconnect 18 = .ok (.aaload, 1) := by decide +kernel
theorem dX15_disconnect_19 : decode cX15_disconnect 19 = .ok (.getfield 210, 3) := by decide +kernel
theorem dX15_disconnect_22 : decode cX15_disconnect 22 = .ok (.ifCond .ne 5, 3) := by decide +kernel
theorem dX15_disconnect_25 : decode cX15_disconnect 25 = .ok (.iconst 0, 1) := by decide +kernel
theorem dX15_disconnect_26 : decode cX15_disconnect 26 = .ok (.ireturn, 1) := by decide +kernel
theorem dX15_disconnect_27 : decode cX15_disconnect 27 = .ok (.aload_n 0, 1) := by decide +kernel
theorem dX15_disconnect_28 : decode cX15_disconnect 28 = .ok (.aload_n 0, 1) := by decide +kernel
theorem dX15_disconnect_29 : decode cX15_disconnect 29 = .ok (.getfield 21, 3) := by decide +kernel
theorem dX15_disconnect_32 : decode cX15_disconnect 32 = .ok (.iload_n 1, 1) := by decide +kernel
theorem dX15_disconnect_33 : decode cX15_disconnect 33 = .ok (.aaload, 1) := by decide +kernel
theorem dX15_disconnect_34 : decode cX15_disconnect 34 = .ok (.invokevirtual 231, 3) := by decide +kernel
theorem dX15_disconnect_37 : decode cX15_disconnect 37 = .ok (.iconst 1, 1) := by decide +kernel
theorem dX15_disconnect_38 : decode cX15_disconnect 38 = .ok (.ireturn, 1) := by decide +kernel
theorem dX15_mayOrder_0 : decode cX15_mayOrder 0 = .ok (.aload_n 0, 1) := by decide +kernel
theorem dX15_mayOrder_1 : decode cX15_mayOrder 1 = .ok (.iload_n 1, 1) := by decide +kernel
theorem dX15_mayOrder_2 : decode cX15_mayOrder 2 = .ok (.invokevirtual 145, 3) := by decide +kernel
theorem dX15_mayOrder_5 : decode cX15_mayOrder 5 = .ok (.ifCond .eq 58, 3) := by decide +kernel
theorem dX15_mayOrder_8 : decode cX15_mayOrder 8 = .ok (.aload_n 0, 1) := by decide +kernel
theorem dX15_mayOrder_9 : decode cX15_mayOrder 9 = .ok (.getfield 21, 3) := by decide +kernel
theorem dX15_mayOrder_12 : decode cX15_mayOrder 12 = .ok (.iload_n 1, 1) := by decide +kernel
theorem dX15_mayOrder_13 : decode cX15_mayOrder 13 = .ok (.aaload, 1) := by decide +kernel
theorem dX15_mayOrder_14 : decode cX15_mayOrder 14 = .ok (.getfield 210, 3) := by decide +kernel
theorem dX15_mayOrder_17 : decode cX15_mayOrder 17 = .ok (.iconst 1, 1) := by decide +kernel
theorem dX15_mayOrder_18 : decode cX15_mayOrder 18 = .ok (.if_icmp .ne 45, 3) := by decide +kernel
theorem dX15_mayOrder_21 : decode cX15_mayOrder 21 = .ok (.aload_n 0, 1) := by decide +kernel
theorem dX15_mayOrder_22 : decode cX15_mayOrder 22 = .ok (.getfield 21, 3) := by decide +kernel
theorem dX15_mayOrder_25 : decode cX15_mayOrder 25 = .ok (.iload_n 1, 1) := by decide +kernel
theorem dX15_mayOrder_26 : decode cX15_mayOrder 26 = .ok (.aaload, 1) := by decide +kernel
theorem dX15_mayOrder_27 : decode cX15_mayOrder 27 = .ok (.getfield 155, 3) := by decide +kernel
theorem dX15_mayOrder_30 : decode cX15_mayOrder 30 = .ok (.getfield 96, 3) := by decide +kernel
theorem dX15_mayOrder_33 : decode cX15_mayOrder 33 = .ok (.bipush 8, 2) := by decide +kernel
theorem dX15_mayOrder_35 : decode cX15_mayOrder 35 = .ok (.if_icmp .ge 28, 3) := by decide +kernel
theorem dX15_mayOrder_38 : decode cX15_mayOrder 38 = .ok (.iload_n 2, 1) := by decide +kernel
theorem dX15_mayOrder_39 : decode cX15_mayOrder 39 = .ok (.iconst 0, 1) := by decide +kernel
theorem dX15_mayOrder_40 : decode cX15_mayOrder 40 = .ok (.ldc_w 405, 3) := by decide +kernel
theorem dX15_mayOrder_43 : decode cX15_mayOrder 43 = .ok (.invokestatic 135, 3) := by decide +kernel
theorem dX15_mayOrder_46 : decode cX15_mayOrder 46 = .ok (.ifCond .eq 17, 3) := by decide +kernel
theorem dX15_mayOrder_49 : decode cX15_mayOrder 49 = .ok (.iload_n 3, 1) := by decide +kernel
theorem dX15_mayOrder_50 : decode cX15_mayOrder 50 = .ok (.iconst 1, 1) := by decide +kernel
theorem dX15_mayOrder_51 : decode cX15_mayOrder 51 = .ok (.iload 4, 2) := by decide +kernel
theorem dX15_mayOrder_53 : decode cX15_mayOrder 53 = .ok (.invokestatic 135, 3) := by decide +kernel
theorem dX15_mayOrder_56 : decode cX15_mayOrder 56 = .ok (.ifCond .eq 7, 3) := by decide +kernel
theorem dX15_mayOrder_59 : decode cX15_mayOrder 59 = .ok (.iconst 1, 1) := by decide +kernel
theorem dX15_mayOrder_60 : decode cX15_mayOrder 60 = .ok (.goto 4, 3) := by decide +kernel
theorem dX15_mayOrder_63 : decode cX15_mayOrder 63 = .ok (.iconst 0, 1) := by decide +kernel
theorem dX15_mayOrder_64 : decode cX15_mayOrder 64 = .ok (.ireturn, 1) := by decide +kernel
theorem dX15_peek_0 : decode cX15_peek 0 = .ok (.aload_n 0, 1) := by decide +kernel
theorem dX15_peek_1 : decode cX15_peek 1 = .ok (.iconst 0, 1) := by decide +kernel
theorem dX15_peek_2 : decode cX15_peek 2 = .ok (.putfield 93, 3) := by decide +kernel
theorem dX15_peek_5 : decode cX15_peek 5 = .ok (.aload_n 0, 1) := by decide +kernel
theorem dX15_peek_6 : decode cX15_peek 6 = .ok (.iload_n 1, 1) := by decide +kernel
theorem dX15_peek_7 : decode cX15_peek 7 = .ok (.iload_n 2, 1) := by decide +kernel
theorem dX15_peek_8 : decode cX15_peek 8 = .ok (.iload_n 3, 1) := by decide +kernel
theorem dX15_peek_9 : decode cX15_peek 9 = .ok (.bipush 12, 2) := by decide +kernel
theorem dX15_peek_11 : decode cX15_peek 11 = .ok (.invokevirtual 429, 3) := by decide +kernel
theorem dX15_peek_14 : decode cX15_peek 14 = .ok (.ifCond .ne 5, 3) := by decide +kernel
theorem dX15_peek_17 : decode cX15_peek 17 = .ok (.iconst 0, 1) := by decide +kernel
theorem dX15_peek_18 : decode cX15_peek 18 = .ok (.ireturn, 1) := by decide +kernel
theorem dX15_peek_19 : decode cX15_peek 19 = .ok (.aload_n 0, 1) := by decide +kernel
theorem dX15_peek_20 : decode cX15_peek 20 = .ok (.getfield 84, 3) := by decide +kernel
theorem dX15_peek_23 : decode cX15_peek 23 = .ok (.iconst 1, 1) := by decide +kernel
theorem dX15_peek_24 : decode cX15_peek 24 = .ok (.iload_n 3, 1) := by decide +kernel
theorem dX15_peek_25 : decode cX15_peek 25 = .ok (.iastore, 1) := by decide +kernel
theorem dX15_peek_26 : decode cX15_peek 26 = .ok (.aload_n 0, 1) := by decide +kernel
theorem dX15_peek_27 : decode cX15_peek 27 = .ok (.getfield 84, 3) := by decide +kernel
theorem dX15_peek_30 : decode cX15_peek 30 = .ok (.iconst 2, 1) := by decide +kernel
theorem dX15_peek_31 : decode cX15_peek 31 = .ok (.iload_n 2, 1) := by decide +kernel
theorem dX15_peek_32 : decode cX15_peek 32 = .ok (.sipush 256, 3) := by decide +kernel
theorem dX15_peek_35 : decode cX15_peek 35 = .ok (.idiv, 1) := by decide +kernel
theorem dX15_peek_36 : decode cX15_peek 36 = .ok (.iastore, 1) := by decide +kernel
theorem dX15_peek_37 : decode cX15_peek 37 = .ok (.aload_n 0, 1) := by decide +kernel
theorem dX15_peek_38 : decode cX15_peek 38 = .ok (.getfield 84, 3) := by decide +kernel
theorem dX15_peek_41 : decode cX15_peek 41 = .ok (.iconst 3, 1) := by decide +kernel
theorem dX15_peek_42 : decode cX15_peek 42 = .ok (.iload_n 2, 1) := by decide +kernel
theorem dX15_peek_43 : decode cX15_peek 43 = .ok (.sipush 256, 3) := by decide +kernel
theorem dX15_peek_46 : decode cX15_peek 46 = .ok (.irem, 1) := by decide +kernel
theorem dX15_peek_47 : decode cX15_peek 47 = .ok (.iastore, 1) := by decide +kernel
theorem dX15_peek_48 : decode cX15_peek 48 = .ok (.aload_n 0, 1) := by decide +kernel
theorem dX15_peek_49 : decode cX15_peek 49 = .ok (.aload_n 0, 1) := by decide +kernel
theorem dX15_peek_50 : decode cX15_peek 50 = .ok (.getfield 21, 3) := by decide +kernel
theorem dX15_peek_53 : decode cX15_peek 53 = .ok (.iload_n 1, 1) := by decide +kernel
theorem dX15_peek_54 : decode cX15_peek 54 = .ok (.aaload, 1) := by decide +kernel
theorem dX15_peek_55 : decode cX15_peek 55 = .ok (.aload_n 0, 1) := by decide +kernel
theorem dX15_peek_56 : decode cX15_peek 56 = .ok (.getfield 84, 3) := by decide +kernel
theorem dX15_peek_59 : decode cX15_peek 59 = .ok (.iconst 4, 1) := by decide +kernel
theorem dX15_peek_60 : decode cX15_peek 60 = .ok (.invokevirtual 259, 3) := by decide +kernel
theorem dX15_peek_63 : decode cX15_peek 63 = .ok (.iconst 1, 1) := by decide +kernel
theorem dX15_peek_64 : decode cX15_peek 64 = .ok (.ireturn, 1) := by decide +kernel
theorem dX15_poke_0 : decode cX15_poke 0 = .ok (.aload_n 0, 1) := by decide +kernel
theorem dX15_poke_1 : decode cX15_poke 1 = .ok (.iconst 0, 1) := by decide +kernel
theorem dX15_poke_2 : decode cX15_poke 2 = .ok (.putfield 93, 3) := by decide +kernel
theorem dX15_poke_5 : decode cX15_poke 5 = .ok (.aload_n 0, 1) := by decide +kernel
theorem dX15_poke_6 : decode cX15_poke 6 = .ok (.iload_n 1, 1) := by decide +kernel
theorem dX15_poke_7 : decode cX15_poke 7 = .ok (.iload_n 2, 1) := by decide +kernel
theorem dX15_poke_8 : decode cX15_poke 8 = .ok (.iload_n 3, 1) := by decide +kernel
theorem dX15_poke_9 : decode cX15_poke 9 = .ok (.iconst 4, 1) := by decide +kernel
theorem dX15_poke_10 : decode cX15_poke 10 = .ok (.invokevirtual 429, 3) := by decide +kernel
theorem dX15_poke_13 : decode cX15_poke 13 = .ok (.ifCond .ne 5, 3) := by decide +kernel
theorem dX15_poke_16 : decode cX15_poke 16 = .ok (.iconst 0, 1) := by decide +kernel
theorem dX15_poke_17 : decode cX15_poke 17 = .ok (.ireturn, 1) := by decide +kernel
theorem dX15_poke_18 : decode cX15_poke 18 = .ok (.aload_n 0, 1) := by decide +kernel
theorem dX15_poke_19 : decode cX15_poke 19 = .ok (.getfield 84, 3) := by decide +kernel
theorem dX15_poke_22 : decode cX15_poke 22 = .ok (.iconst 1, 1) := by decide +kernel
theorem dX15_poke_23 : decode cX15_poke 23 = .ok (.sipush 128, 3) := by decide +kernel
theorem dX15_poke_26 : decode cX15_poke 26 = .ok (.iload_n 3, 1) := by decide +kernel
theorem dX15_poke_27 : decode cX15_poke 27 = .ok (.iadd, 1) := by decide +kernel
theorem dX15_poke_28 : decode cX15_poke 28 = .ok (.iastore, 1) := by decide +kernel
theorem dX15_poke_29 : decode cX15_poke 29 = .ok (.aload_n 0, 1) := by decide +kernel
theorem dX15_poke_30 : decode cX15_poke 30 = .ok (.getfield 84, 3) := by decide +kernel
theorem dX15_poke_33 : decode cX15_poke 33 = .ok (.iconst 2, 1) := by decide +kernel
theorem dX15_poke_34 : decode cX15_poke 34 = .ok (.iload_n 2, 1) := by decide +kernel
theorem dX15_poke_35 : decode cX15_poke 35 = .ok (.sipush 256, 3) := by decide +kernel
theorem dX15_poke_38 : decode cX15_poke 38 = .ok (.idiv, 1) := by decide +kernel
theorem dX15_poke_39 : decode cX15_poke 39 = .ok (.iastore, 1) := by decide +kernel
theorem dX15_poke_40 : decode cX15_poke 40 = .ok (.aload_n 0, 1) := by decide +kernel
theorem dX15_poke_41 : decode cX15_poke 41 = .ok (.getfield 84, 3) := by decide +kernel
theorem dX15_poke_44 : decode cX15_poke 44 = .ok (.iconst 3, 1) := by decide +kernel
theorem dX15_poke_45 : decode cX15_poke 45 = .ok (.iload_n 2, 1) := by decide +kernel
theorem dX15_poke_46 : decode cX15_poke 46 = .ok (.sipush 256, 3) := by decide +kernel
theorem dX15_poke_49 : decode cX15_poke 49 = .ok (.irem, 1) := by decide +kernel
theorem dX15_poke_50 : decode cX15_poke 50 = .ok (.iastore, 1) := by decide +kernel
theorem dX15_poke_51 : decode cX15_poke 51 = .ok (.iconst 0, 1) := by decide +kernel
theorem dX15_poke_52 : decode cX15_poke 52 = .ok (.istore 5, 2) := by decide +kernel
theorem dX15_poke_54 : decode cX15_poke 54 = .ok (.iload 5, 2) := by decide +kernel
theorem dX15_poke_56 : decode cX15_poke 56 = .ok (.iload_n 3, 1) := by decide +kernel
theorem dX15_poke_57 : decode cX15_poke 57 = .ok (.if_icmp .ge 34, 3) := by decide +kernel
theorem dX15_poke_60 : decode cX15_poke 60 = .ok (.aload_n 0, 1) := by decide +kernel
theorem dX15_poke_61 : decode cX15_poke 61 = .ok (.getfield 84, 3) := by decide +kernel
theorem dX15_poke_64 : decode cX15_poke 64 = .ok (.iconst 4, 1) := by decide +kernel
theorem dX15_poke_65 : decode cX15_poke 65 = .ok (.iload 5, 2) := by decide +kernel
theorem dX15_poke_67 : decode cX15_poke 67 = .ok (.iadd, 1) := by decide +kernel
theorem dX15_poke_68 : decode cX15_poke 68 = .ok (.iload 4, 2) := by decide +kernel
theorem dX15_poke_70 : decode cX15_poke 70 = .ok (.bipush 8, 2) := by decide +kernel
theorem dX15_poke_72 : decode cX15_poke 72 = .ok (.iload_n 3, 1) := by decide +kernel
theorem dX15_poke_73 : decode cX15_poke 73 = .ok (.iconst 1, 1) := by decide +kernel
theorem dX15_poke_74 : decode cX15_poke 74 = .ok (.isub, 1) := by decide +kernel
theorem dX15_poke_75 : decode cX15_poke 75 = .ok (.iload 5, 2) := by decide +kernel
theorem dX15_poke_77 : decode cX15_poke 77 = .ok (.isub, 1) := by decide +kernel
theorem dX15_poke_78 : decode cX15_poke 78 = .ok (.imul, 1) := by decide +kernel
theorem dX15_poke_79 : decode cX15_poke 79 = .ok (.ishr, 1) := by decide +kernel
theorem dX15_poke_80 : decode cX15_poke 80 = .ok (.sipush 255, 3) := by decide +kernel
theorem dX15_poke_83 : decode cX15_poke 83 = .ok (.iand, 1) := by decide +kernel
theorem dX15_poke_84 : decode cX15_poke 84 = .ok (.iastore, 1) := by decide +kernel
theorem dX15_poke_85 : decode cX15_poke 85 = .ok (.iinc 5 1, 3) := by decide +kernel
theorem dX15_poke_88 : decode cX15_poke 88 = .ok (.goto (-34), 3) := by decide +kernel
theorem dX15_poke_91 : decode cX15_poke 91 = .ok (.aload_n 0, 1) := by decide +kernel
theorem dX15_poke_92 : decode cX15_poke 92 = .ok (.aload_n 0, 1) := by decide +kernel
theorem dX15_poke_93 : decode cX15_poke 93 = .ok (.getfield 21, 3) := by decide +kernel
theorem dX15_poke_96 : decode cX15_poke 96 = .ok (.iload_n 1, 1) := by decide +kernel
theorem dX15_poke_97 : decode cX15_poke 97 = .ok (.aaload, 1) := by decide +kernel
theorem dX15_poke_98 : decode cX15_poke 98 = .ok (.aload_n 0, 1) := by decide +kernel
theorem dX15_poke_99 : decode cX15_poke 99 = .ok (.getfield 84, 3) := by decide +kernel
theorem dX15_poke_102 : decode cX15_poke 102 = .ok (.iconst 4, 1) := by decide +kernel
theorem dX15_poke_103 : decode cX15_poke 103 = .ok (.iload_n 3, 1) := by decide +kernel
theorem dX15_poke_104 : decode cX15_poke 104 = .ok (.iadd, 1) := by decide +kernel
theorem dX15_poke_105 : decode cX15_poke 105 = .ok (.invokevirtual 259, 3) := by decide +kernel
theorem dX15_poke_108 : decode cX15_poke 108 = .ok (.iconst 1, 1) := by decide +kernel
theorem dX15_poke_109 : decode cX15_poke 109 = .ok (.ireturn, 1) := by decide +kernel
theorem dX15_memory_0 : decode cX15_memory 0 = .ok (.aload_n 0, 1) := by decide +kernel
theorem dX15_memory_1 : decode cX15_memory 1 = .ok (.iconst 0, 1) := by decide +kernel
theorem dX15_memory_2 : decode cX15_memory 2 = .ok (.putfield 93, 3) := by decide +kernel
theorem dX15_memory_5 : decode cX15_memory 5 = .ok (.aload_n 0, 1) := by decide +kernel
theorem dX15_memory_6 : decode cX15_memory 6 = .ok (.iload_n 1, 1) := by decide +kernel
theorem dX15_memory_7 : decode cX15_memory 7 = .ok (.invokevirtual 145, 3) := by decide +kernel
theorem dX15_memory_10 : decode cX15_memory 10 = .ok (.ifCond .eq 27, 3) := by decide +kernel
theorem dX15_memory_13 : decode cX15_memory 13 = .ok (.iload_n 2, 1) := by decide +kernel
theorem dX15_memory_14 : decode cX15_memory 14 = .ok (.iconst 0, 1) := by decide +kernel
theorem dX15_memory_15 : decode cX15_memory 15 = .ok (.bipush 63, 2) := by decide +kernel
theorem dX15_memory_17 : decode cX15_memory 17 = .ok (.invokestatic 135, 3) := by decide +kernel
theorem dX15_memory_20 : decode cX15_memory 20 = .ok (.ifCond .eq 17, 3) := by decide +kernel
theorem dX15_memory_23 : decode cX15_memory 23 = .ok (.aload_n 0, 1) := by decide +kernel
theorem dX15_memory_24 : decode cX15_memory 24 = .ok (.getfield 21, 3) := by decide +kernel
theorem dX15_memory_27 : decode cX15_memory 27 = .ok (.iload_n 1, 1) := by decide +kernel
theorem dX15_memory_28 : decode cX15_memory 28 = .ok (.aaload, 1) := by decide +kernel
theorem dX15_memory_29 : decode cX15_memory 29 = .ok (.getfield 256, 3) := by decide +kernel
theorem dX15_memory_32 : decode cX15_memory 32 = .ok (.iload_n 2, 1) := by decide +kernel
theorem dX15_memory_33 : decode cX15_memory 33 = .ok (.iaload, 1) := by decide +kernel
theorem dX15_memory_34 : decode cX15_memory 34 = .ok (.goto 4, 3) := by decide +kernel
theorem dX15_memory_37 : decode cX15_memory 37 = .ok (.iconst (-1), 1) := by decide +kernel
theorem dX15_memory_38 : decode cX15_memory 38 = .ok (.ireturn, 1) := by decide +kernel
theorem dX15_store_0 : decode cX15_store 0 = .ok (.aload_n 0, 1) := by decide +kernel
theorem dX15_store_1 : decode cX15_store 1 = .ok (.iconst 0, 1) := by decide +kernel
theorem dX15_store_2 : decode cX15_store 2 = .ok (.putfield 93, 3) := by decide +kernel
theorem dX15_store_5 : decode cX15_store 5 = .ok (.aload_n 0, 1) := by decide +kernel
theorem dX15_store_6 : decode cX15_store 6 = .ok (.iload_n 1, 1) := by decide +kernel
theorem dX15_store_7 : decode cX15_store 7 = .ok (.invokevirtual 145, 3) := by decide +kernel
theorem dX15_store_10 : decode cX15_store 10 = .ok (.ifCond .eq 13, 3) := by decide +kernel
theorem dX15_store_13 : decode cX15_store 13 = .ok (.iload_n 2, 1) := by decide +kernel
theorem dX15_store_14 : decode cX15_store 14 = .ok (.iconst 0, 1) := by decide +kernel
theorem dX15_store_15 : decode cX15_store 15 = .ok (.bipush 63, 2) := by decide +kernel
theorem dX15_store_17 : decode cX15_store 17 = .ok (.invokestatic 135, 3) := by decide +kernel
theorem dX15_store_20 : decode cX15_store 20 = .ok (.ifCond .ne 5, 3) := by decide +kernel
theorem dX15_store_23 : decode cX15_store 23 = .ok (.iconst 0, 1) := by decide +kernel
theorem dX15_store_24 : decode cX15_store 24 = .ok (.ireturn, 1) := by decide +kernel
theorem dX15_store_25 : decode cX15_store 25 = .ok (.aload_n 0, 1) := by decide +kernel
theorem dX15_store_26 : decode cX15_store 26 = .ok (.getfield 21, 3) := by decide +kernel
theorem dX15_store_29 : decode cX15_store 29 = .ok (.iload_n 1, 1) := by decide +kernel
theorem dX15_store_30 : decode cX15_store 30 = .ok (.aaload, 1) := by decide +kernel
theorem dX15_store_31 : decode cX15_store 31 = .ok (.getfield 256, 3) := by decide +kernel
theorem dX15_store_34 : decode cX15_store 34 = .ok (.iload_n 2, 1) := by decide +kernel
theorem dX15_store_35 : decode cX15_store 35 = .ok (.iload_n 3, 1) := by decide +kernel
theorem dX15_store_36 : decode cX15_store 36 = .ok (.sipush 255, 3) := by decide +kernel
theorem dX15_store_39 : decode cX15_store 39 = .ok (.iand, 1) := by decide +kernel
theorem dX15_store_40 : decode cX15_store 40 = .ok (.iastore, 1) := by decide +kernel
theorem dX15_store_41 : decode cX15_store 41 = .ok (.iconst 1, 1) := by decide +kernel
theorem dX15_store_42 : decode cX15_store 42 = .ok (.ireturn, 1) := by decide +kernel
theorem dX15_reply_0 : decode cX15_reply 0 = .ok (.aload_n 0, 1) := by decide +kernel
theorem dX15_reply_1 : decode cX15_reply 1 = .ok (.iconst 0, 1) := by decide +kernel
theorem dX15_reply_2 : decode cX15_reply 2 = .ok (.putfield 93, 3) := by decide +kernel
theorem dX15_reply_5 : decode cX15_reply 5 = .ok (.aload_n 0, 1) := by decide +kernel
theorem dX15_reply_6 : decode cX15_reply 6 = .ok (.iload_n 1, 1) := by decide +kernel
theorem dX15_reply_7 : decode cX15_reply 7 = .ok (.invokevirtual 145, 3) := by decide +kernel
theorem dX15_reply_10 : decode cX15_reply 10 = .ok (.ifCond .ne 5, 3) := by decide +kernel
theorem dX15_reply_13 : decode cX15_reply 13 = .ok (.iconst (-1), 1) := by decide +kernel
theorem dX15_reply_14 : decode cX15_reply 14 = .ok (.ireturn, 1) := by decide +kernel
theorem dX15_reply_15 : decode cX15_reply 15 = .ok (.iload_n 2, 1) := by decide +kernel
theorem dX15_reply_16 : decode cX15_reply 16 = .ok (.iconst (-1), 1) := by decide +kernel
theorem dX15_reply_17 : decode cX15_reply 17 = .ok (.if_icmp .ne 15, 3) := by decide +kernel
theorem dX15_reply_20 : decode cX15_reply 20 = .ok (.aload_n 0, 1) := by decide +kernel
theorem dX15_reply_21 : decode cX15_reply 21 = .ok (.getfield 21, 3) := by decide +kernel
theorem dX15_reply_24 : decode cX15_reply 24 = .ok (.iload_n 1, 1) := by decide +kernel
theorem dX15_reply_25 : decode cX15_reply 25 = .ok (.aaload, 1) := by decide +kernel
theorem dX15_reply_26 : decode cX15_reply 26 = .ok (.getfield 262, 3) := by decide +kernel
theorem dX15_reply_29 : decode cX15_reply 29 = .ok (.goto 37, 3) := by decide +kernel
theorem dX15_reply_32 : decode cX15_reply 32 = .ok (.iload_n 2, 1) := by decide +kernel
theorem dX15_reply_33 : decode cX15_reply 33 = .ok (.iconst 0, 1) := by decide +kernel
theorem dX15_reply_34 : decode cX15_reply 34 = .ok (.aload_n 0, 1) := by decide +kernel
theorem dX15_reply_35 : decode cX15_reply 35 = .ok (.getfield 21, 3) := by decide +kernel
theorem dX15_reply_38 : decode cX15_reply 38 = .ok (.iload_n 1, 1) := by decide +kernel
theorem dX15_reply_39 : decode cX15_reply 39 = .ok (.aaload, 1) := by decide +kernel
theorem dX15_reply_40 : decode cX15_reply 40 = .ok (.getfield 262, 3) := by decide +kernel
theorem dX15_reply_43 : decode cX15_reply 43 = .ok (.iconst 1, 1) := by decide +kernel
theorem dX15_reply_44 : decode cX15_reply 44 = .ok (.isub, 1) := by decide +kernel
theorem dX15_reply_45 : decode cX15_reply 45 = .ok (.invokestatic 135, 3) := by decide +kernel
theorem dX15_reply_48 : decode cX15_reply 48 = .ok (.ifCond .eq 17, 3) := by decide +kernel
theorem dX15_reply_51 : decode cX15_reply 51 = .ok (.aload_n 0, 1) := by decide +kernel
theorem dX15_reply_52 : decode cX15_reply 52 = .ok (.getfield 21, 3) := by decide +kernel
theorem dX15_reply_55 : decode cX15_reply 55 = .ok (.iload_n 1, 1) := by decide +kernel
theorem dX15_reply_56 : decode cX15_reply 56 = .ok (.aaload, 1) := by decide +kernel
theorem dX15_reply_57 : decode cX15_reply 57 = .ok (.getfield 265, 3) := by decide +kernel
theorem dX15_reply_60 : decode cX15_reply 60 = .ok (.iload_n 2, 1) := by decide +kernel
theorem dX15_reply_61 : decode cX15_reply 61 = .ok (.iaload, 1) := by decide +kernel
theorem dX15_reply_62 : decode cX15_reply 62 = .ok (.goto 4, 3) := by decide +kernel
theorem dX15_reply_65 : decode cX15_reply 65 = .ok (.iconst (-1), 1) := by decide +kernel
theorem dX15_reply_66 : decode cX15_reply 66 = .ok (.ireturn, 1) := by decide +kernel
theorem dX15_connection_0 : decode cX15_connection 0 = .ok (.aload_n 0, 1) := by decide +kernel
theorem dX15_connection_1 : decode cX15_connection 1 = .ok (.iconst 0, 1) := by decide +kernel
theorem dX15_connection_2 : decode cX15_connection 2 = .ok (.putfield 93, 3) := by decide +kernel
theorem dX15_connection_5 : decode cX15_connection 5 = .ok (.aload_n 0, 1) := by decide +kernel
theorem dX15_connection_6 : decode cX15_connection 6 = .ok (.iload_n 1, 1) := by decide +kernel
theorem dX15_connection_7 : decode cX15_connection 7 = .ok (.invokevirtual 145, 3) := by decide +kernel
theorem dX15_connection_10 : decode cX15_connection 10 = .ok (.ifCond .ne 5, 3) := by decide +kernel
theorem dX15_connection_13 : decode cX15_connection 13 = .ok (.iconst (-1), 1) := by decide +kernel
theorem dX15_connection_14 : decode cX15_connection 14 = .ok (.ireturn, 1) := by decide +kernel
theorem dX15_connection_15 : decode cX15_connection 15 = .ok (.aload_n 0, 1) := by decide +kernel
theorem dX15_connection_16 : decode cX15_connection 16 = .ok (.getfield 21, 3) := by decide +kernel
theorem dX15_connection_19 : decode cX15_connection 19 = .ok (.iload_n 1, 1) := by decide +kernel
theorem dX15_connection_20 : decode cX15_connection 20 = .ok (.aaload, 1) := by decide +kernel
theorem dX15_connection_21 : decode cX15_connection 21 = .ok (.astore_n 3, 1) := by decide +kernel
theorem dX15_connection_22 : decode cX15_connection 22 = .ok (.iload_n 2, 1) := by decide +kernel
theorem dX15_connection_23 : decode cX15_connection 23 = .ok (.tableswitch 201 0 11 #[61, 66, 82, 98, 114, 131, 148, 173, 181, 186, 191, 196], 61) := by decide +kernel
theorem dX15_connection_84 : decode cX15_connection 84 = .ok (.aload_n 3, 1) := by decide +kernel
theorem dX15_connection_85 : decode cX15_connection 85 = .ok (.getfield 210, 3) := by decide +kernel
theorem dX15_connection_88 : decode cX15_connection 88 = .ok (.ireturn, 1) := by decide +kernel
theorem dX15_connection_89 : decode cX15_connection 89 = .ok (.aload_n 3, 1) := by decide +kernel
theorem dX15_connection_90 : decode cX15_connection 90 = .ok (.getfield 210, 3) := by decide +kernel
theorem dX15_connection_93 : decode cX15_connection 93 = .ok (.ifCond .ne 7, 3) := by decide +kernel
theorem dX15_connection_96 : decode cX15_connection 96 = .ok (.iconst (-1), 1) := by decide +kernel
theorem dX15_connection_97 : decode cX15_connection 97 = .ok (.goto 7, 3) := by decide +kernel
theorem dX15_connection_100 : decode cX15_connection 100 = .ok (.aload_n 3, 1) := by decide +kernel
theorem dX15_connection_101 : decode cX15_connection 101 = .ok (.getfield 203, 3) := by decide +kernel
theorem dX15_connection_104 : decode cX15_connection 104 = .ok (.ireturn, 1) := by decide +kernel
theorem dX15_connection_105 : decode cX15_connection 105 = .ok (.aload_n 3, 1) := by decide +kernel
theorem dX15_connection_106 : decode cX15_connection 106 = .ok (.getfield 210, 3) := by decide +kernel
theorem dX15_connection_109 : decode cX15_connection 109 = .ok (.ifCond .ne 7, 3) := by decide +kernel
theorem dX15_connection_112 : decode cX15_connection 112 = .ok (.iconst 0, 1) := by decide +kernel
theorem dX15_connection_113 : decode cX15_connection 113 = .ok (.goto 7, 3) := by decide +kernel
theorem dX15_connection_116 : decode cX15_connection 116 = .ok (.aload_n 3, 1) := by decide +kernel
theorem dX15_connection_117 : decode cX15_connection 117 = .ok (.getfield 216, 3) := by decide +kernel
theorem dX15_connection_120 : decode cX15_connection 120 = .ok (.ireturn, 1) := by decide +kernel
theorem dX15_connection_121 : decode cX15_connection 121 = .ok (.aload_n 3, 1) := by decide +kernel
theorem dX15_connection_122 : decode cX15_connection 122 = .ok (.getfield 210, 3) := by decide +kernel
theorem dX15_connection_125 : decode cX15_connection 125 = .ok (.ifCond .ne 7, 3) := by decide +kernel
theorem dX15_connection_128 : decode cX15_connection 128 = .ok (.iconst 0, 1) := by decide +kernel
theorem dX15_connection_129 : decode cX15_connection 129 = .ok (.goto 7, 3) := by decide +kernel
theorem dX15_connection_132 : decode cX15_connection 132 = .ok (.aload_n 3, 1) := by decide +kernel
theorem dX15_connection_133 : decode cX15_connection 133 = .ok (.getfield 246, 3) := by decide +kernel
theorem dX15_connection_136 : decode cX15_connection 136 = .ok (.ireturn, 1) := by decide +kernel
theorem dX15_connection_137 : decode cX15_connection 137 = .ok (.aload_n 3, 1) := by decide +kernel
theorem dX15_connection_138 : decode cX15_connection 138 = .ok (.getfield 210, 3) := by decide +kernel
theorem dX15_connection_141 : decode cX15_connection 141 = .ok (.iconst 2, 1) := by decide +kernel
theorem dX15_connection_142 : decode cX15_connection 142 = .ok (.if_icmp .ne 10, 3) := by decide +kernel
theorem dX15_connection_145 : decode cX15_connection 145 = .ok (.aload_n 3, 1) := by decide +kernel
theorem dX15_connection_146 : decode cX15_connection 146 = .ok (.getfield 222, 3) := by decide +kernel
theorem dX15_connection_149 : decode cX15_connection 149 = .ok (.goto 4, 3) := by decide +kernel
theorem dX15_connection_152 : decode cX15_connection 152 = .ok (.iconst 0, 1) := by decide +kernel
theorem dX15_connection_153 : decode cX15_connection 153 = .ok (.ireturn, 1) := by decide +kernel
theorem dX15_connection_154 : decode cX15_connection 154 = .ok (.aload_n 3, 1) := by decide +kernel
theorem dX15_connection_155 : decode cX15_connection 155 = .ok (.getfield 210, 3) := by decide +kernel
theorem dX15_connection_158 : decode cX15_connection 158 = .ok (.iconst 2, 1) := by decide +kernel
theorem dX15_connection_159 : decode cX15_connection 159 = .ok (.if_icmp .ne 10, 3) := by decide +kernel
theorem dX15_connection_162 : decode cX15_connection 162 = .ok (.aload_n 3, 1) := by decide +kernel
theorem dX15_connection_163 : decode cX15_connection 163 = .ok (.getfield 225, 3) := by decide +kernel
theorem dX15_connection_166 : decode cX15_connection 166 = .ok (.goto 4, 3) := by decide +kernel
theorem dX15_connection_169 : decode cX15_connection 169 = .ok (.iconst 0, 1) := by decide +kernel
theorem dX15_connection_170 : decode cX15_connection 170 = .ok (.ireturn, 1) := by decide +kernel
theorem dX15_connection_171 : decode cX15_connection 171 = .ok (.aload_n 3, 1) := by decide +kernel
theorem dX15_connection_172 : decode cX15_connection 172 = .ok (.getfield 210, 3) := by decide +kernel
theorem dX15_connection_175 : decode cX15_connection 175 = .ok (.iconst 1, 1) := by decide +kernel
theorem dX15_connection_176 : decode cX15_connection 176 = .ok (.if_icmp .eq 11, 3) := by decide +kernel
theorem dX15_connection_179 : decode cX15_connection 179 = .ok (.aload_n 3, 1) := by decide +kernel
theorem dX15_connection_180 : decode cX15_connection 180 = .ok (.getfield 210, 3) := by decide +kernel
theorem dX15_connection_183 : decode cX15_connection 183 = .ok (.iconst 2, 1) := by decide +kernel
theorem dX15_connection_184 : decode cX15_connection 184 = .ok (.if_icmp .ne 10, 3) := by decide +kernel
theorem dX15_connection_187 : decode cX15_connection 187 = .ok (.aload_n 3, 1) := by decide +kernel
theorem dX15_connection_188 : decode cX15_connection 188 = .ok (.getfield 228, 3) := by decide +kernel
theorem dX15_connection_191 : decode cX15_connection 191 = .ok (.goto 4, 3) := by decide +kernel
theorem dX15_connection_194 : decode cX15_connection 194 = .ok (.iconst 0, 1) := by decide +kernel
theorem dX15_connection_195 : decode cX15_connection 195 = .ok (.ireturn, 1) := by decide +kernel
theorem dX15_connection_196 : decode cX15_connection 196 = .ok (.aload_n 3, 1) := by decide +kernel
theorem dX15_connection_197 : decode cX15_connection 197 = .ok (.getfield 155, 3) := by decide +kernel
theorem dX15_connection_200 : decode cX15_connection 200 = .ok (.getfield 96, 3) := by decide +kernel
theorem dX15_connection_203 : decode cX15_connection 203 = .ok (.ireturn, 1) := by decide +kernel
theorem dX15_connection_204 : decode cX15_connection 204 = .ok (.aload_n 3, 1) := by decide +kernel
theorem dX15_connection_205 : decode cX15_connection 205 = .ok (.getfield 152, 3) := by decide +kernel
theorem dX15_connection_208 : decode cX15_connection 208 = .ok (.ireturn, 1) := by decide +kernel
theorem dX15_connection_209 : decode cX15_connection 209 = .ok (.aload_n 3, 1) := by decide +kernel
theorem dX15_connection_210 : decode cX15_connection 210 = .ok (.getfield 317, 3) := by decide +kernel
theorem dX15_connection_213 : decode cX15_connection 213 = .ok (.ireturn, 1) := by decide +kernel
theorem dX15_connection_214 : decode cX15_connection 214 = .ok (.aload_n 3, 1) := by decide +kernel
theorem dX15_connection_215 : decode cX15_connection 215 = .ok (.getfield 149, 3) := by decide +kernel
theorem dX15_connection_218 : decode cX15_connection 218 = .ok (.ireturn, 1) := by decide +kernel
theorem dX15_connection_219 : decode cX15_connection 219 = .ok (.aload_n 3, 1) := by decide +kernel
theorem dX15_connection_220 : decode cX15_connection 220 = .ok (.getfield 180, 3) := by decide +kernel
theorem dX15_connection_223 : decode cX15_connection 223 = .ok (.ireturn, 1) := by decide +kernel
theorem dX15_connection_224 : decode cX15_connection 224 = .ok (.iconst (-1), 1) := by decide +kernel
theorem dX15_connection_225 : decode cX15_connection 225 = .ok (.ireturn, 1) := by decide +kernel
theorem dX15_busy_0 : decode cX15_busy 0 = .ok (.aload_n 0, 1) := by decide +kernel
theorem dX15_busy_1 : decode cX15_busy 1 = .ok (.iconst 0, 1) := by decide +kernel
theorem dX15_busy_2 : decode cX15_busy 2 = .ok (.putfield 93, 3) := by decide +kernel
theorem dX15_busy_5 : decode cX15_busy 5 = .ok (.aload_n 0, 1) := by decide +kernel
theorem dX15_busy_6 : decode cX15_busy 6 = .ok (.iload_n 1, 1) := by decide +kernel
theorem dX15_busy_7 : decode cX15_busy 7 = .ok (.invokevirtual 145, 3) := by decide +kernel
theorem dX15_busy_10 : decode cX15_busy 10 = .ok (.ifCond .eq 13, 3) := by decide +kernel
theorem dX15_busy_13 : decode cX15_busy 13 = .ok (.iload_n 2, 1) := by decide +kernel
theorem dX15_busy_14 : decode cX15_busy 14 = .ok (.iconst 0, 1) := by decide +kernel
theorem dX15_busy_15 : decode cX15_busy 15 = .ok (.bipush 20, 2) := by decide +kernel
theorem dX15_busy_17 : decode cX15_busy 17 = .ok (.invokestatic 135, 3) := by decide +kernel
theorem dX15_busy_20 : decode cX15_busy 20 = .ok (.ifCond .ne 5, 3) := by decide +kernel
theorem dX15_busy_23 : decode cX15_busy 23 = .ok (.iconst 0, 1) := by decide +kernel
theorem dX15_busy_24 : decode cX15_busy 24 = .ok (.ireturn, 1) := by decide +kernel
theorem dX15_busy_25 : decode cX15_busy 25 = .ok (.aload_n 0, 1) := by decide +kernel
theorem dX15_busy_26 : decode cX15_busy 26 = .ok (.getfield 21, 3) := by decide +kernel
theorem dX15_busy_29 : decode cX15_busy 29 = .ok (.iload_n 1, 1) := by decide +kernel
theorem dX15_busy_30 : decode cX15_busy 30 = .ok (.aaload, 1) := by decide +kernel
theorem dX15_busy_31 : decode cX15_busy 31 = .ok (.iload_n 2, 1) := by decide +kernel
theorem dX15_busy_32 : decode cX15_busy 32 = .ok (.putfield 317, 3) := by decide +kernel
theorem dX15_busy_35 : decode cX15_busy 35 = .ok (.iconst 1, 1) := by decide +kernel
theorem dX15_busy_36 : decode cX15_busy 36 = .ok (.ireturn, 1) := by decide +kernel
theorem dX15_feed_0 : decode cX15_feed 0 = .ok (.aload_n 0, 1) := by decide +kernel
theorem dX15_feed_1 : decode cX15_feed 1 = .ok (.iconst 0, 1) := by decide +kernel
theorem dX15_feed_2 : decode cX15_feed 2 = .ok (.putfield 93, 3) := by decide +kernel
theorem dX15_feed_5 : decode cX15_feed 5 = .ok (.aload_n 0, 1) := by decide +kernel
theorem dX15_feed_6 : decode cX15_feed 6 = .ok (.getfield 433, 3) := by decide +kernel
theorem dX15_feed_9 : decode cX15_feed 9 = .ok (.bipush 20, 2) := by decide +kernel
theorem dX15_feed_11 : decode cX15_feed 11 = .ok (.iadd, 1) := by decide +kernel
theorem dX15_feed_12 : decode cX15_feed 12 = .ok (.bipush 60, 2) := by decide +kernel
theorem dX15_feed_14 : decode cX15_feed 14 = .ok (.if_icmp .le 5, 3) := by decide +kernel
theorem dX15_feed_17 : decode cX15_feed 17 = .ok (.iconst (-1), 1) := by decide +kernel
theorem dX15_feed_18 : decode cX15_feed 18 = .ok (.ireturn, 1) := by decide +kernel
theorem dX15_feed_19 : decode cX15_feed 19 = .ok (.iconst 0, 1) := by decide +kernel
theorem dX15_feed_20 : decode cX15_feed 20 = .ok (.istore 6, 2) := by decide +kernel
theorem dX15_feed_22 : decode cX15_feed 22 = .ok (.iload 6, 2) := by decide +kernel
theorem dX15_feed_24 : decode cX15_feed 24 = .ok (.bipush 20, 2) := by decide +kernel
theorem dX15_feed_26 : decode cX15_feed 26 = .ok (.if_icmp .ge 93, 3) := by decide +kernel
theorem dX15_feed_29 : decode cX15_feed 29 = .ok (.iload 6, 2) := by decide +kernel
theorem dX15_feed_31 : decode cX15_feed 31 = .ok (.iconst 4, 1) := by decide +kernel
theorem dX15_feed_32 : decode cX15_feed 32 = .ok (.if_icmp .ge 7, 3) := by decide +kernel
theorem dX15_feed_35 : decode cX15_feed 35 = .ok (.iload_n 1, 1) := by decide +kernel
theorem dX15_feed_36 : decode cX15_feed 36 = .ok (.goto 39, 3) := by decide +kernel
theorem dX15_feed_39 : decode cX15_feed 39 = .ok (.iload 6, 2) := by decide +kernel
theorem dX15_feed_41 : decode cX15_feed 41 = .ok (.bipush 8, 2) := by decide +kernel
theorem dX15_feed_43 : decode cX15_feed 43 = .ok (.if_icmp .ge 7, 3) := by decide +kernel
theorem dX15_feed_46 : decode cX15_feed 46 = .ok (.iload_n 2, 1) := by decide +kernel
theorem dX15_feed_47 : decode cX15_feed 47 = .ok (.goto 28, 3) := by decide +kernel
theorem dX15_feed_50 : decode cX15_feed 50 = .ok (.iload 6, 2) := by decide +kernel
theorem dX15_feed_52 : decode cX15_feed 52 = .ok (.bipush 12, 2) := by decide +kernel
theorem dX15_feed_54 : decode cX15_feed 54 = .ok (.if_icmp .ge 7, 3) := by decide +kernel
theorem dX15_feed_57 : decode cX15_feed 57 = .ok (.iload_n 3, 1) := by decide +kernel
theorem dX15_feed_58 : decode cX15_feed 58 = .ok (.goto 17, 3) := by decide +kernel
theorem dX15_feed_61 : decode cX15_feed 61 = .ok (.iload 6, 2) := by decide +kernel
theorem dX15_feed_63 : decode cX15_feed 63 = .ok (.bipush 16, 2) := by decide +kernel
theorem dX15_feed_65 : decode cX15_feed 65 = .ok (.if_icmp .ge 8, 3) := by decide +kernel
theorem dX15_feed_68 : decode cX15_feed 68 = .ok (.iload 4, 2) := by decide +kernel
theorem dX15_feed_70 : decode cX15_feed 70 = .ok (.goto 5, 3) := by decide +kernel
theorem dX15_feed_73 : decode cX15_feed 73 = .ok (.iload 5, 2) := by decide +kernel
theorem dX15_feed_75 : decode cX15_feed 75 = .ok (.istore 7, 2) := by decide +kernel
theorem dX15_feed_77 : decode cX15_feed 77 = .ok (.aload_n 0, 1) := by decide +kernel
theorem dX15_feed_78 : decode cX15_feed 78 = .ok (.getfield 87, 3) := by decide +kernel
theorem dX15_feed_81 : decode cX15_feed 81 = .ok (.aload_n 0, 1) := by decide +kernel
theorem dX15_feed_82 : decode cX15_feed 82 = .ok (.getfield 433, 3) := by decide +kernel
theorem dX15_feed_85 : decode cX15_feed 85 = .ok (.iload 7, 2) := by decide +kernel
theorem dX15_feed_87 : decode cX15_feed 87 = .ok (.bipush 24, 2) := by decide +kernel
theorem dX15_feed_89 : decode cX15_feed 89 = .ok (.bipush 8, 2) := by decide +kernel
theorem dX15_feed_91 : decode cX15_feed 91 = .ok (.iload 6, 2) := by decide +kernel
theorem dX15_feed_93 : decode cX15_feed 93 = .ok (.iconst 4, 1) := by decide +kernel
theorem dX15_feed_94 : decode cX15_feed 94 = .ok (.irem, 1) := by decide +kernel
theorem dX15_feed_95 : decode cX15_feed 95 = .ok (.imul, 1) := by decide +kernel
theorem dX15_feed_96 : decode cX15_feed 96 = .ok (.isub, 1) := by decide +kernel
theorem dX15_feed_97 : decode cX15_feed 97 = .ok (.ishr, 1) := by decide +kernel
theorem dX15_feed_98 : decode cX15_feed 98 = .ok (.sipush 255, 3) := by decide +kernel
theorem dX15_feed_101 : decode cX15_feed 101 = .ok (.iand, 1) := by decide +kernel
theorem dX15_feed_102 : decode cX15_feed 102 = .ok (.iastore, 1) := by decide +kernel
theorem dX15_feed_103 : decode cX15_feed 103 = .ok (.aload_n 0, 1) := by decide +kernel
theorem dX15_feed_104 : decode cX15_feed 104 = .ok (.dup, 1) := by decide +kernel
theorem dX15_feed_105 : decode cX15_feed 105 = .ok (.getfield 433, 3) := by decide +kernel
theorem dX15_feed_108 : decode cX15_feed 108 = .ok (.iconst 1, 1) := by decide +kernel
theorem dX15_feed_109 : decode cX15_feed 109 = .ok (.iadd, 1) := by decide +kernel
theorem dX15_feed_110 : decode cX15_feed 110 = .ok (.putfield 433, 3) := by decide +kernel
theorem dX15_feed_113 : decode cX15_feed 113 = .ok (.iinc 6 1, 3) := by decide +kernel
theorem dX15_feed_116 : decode cX15_feed 116 = .ok (.goto (-94), 3) := by decide +kernel
theorem dX15_feed_119 : decode cX15_feed 119 = .ok (.aload_n 0, 1) := by decide +kernel
theorem dX15_feed_120 : decode cX15_feed 120 = .ok (.getfield 433, 3) := by decide +kernel
theorem dX15_feed_123 : decode cX15_feed 123 = .ok (.ireturn, 1) := by decide +kernel
theorem dX15_end_0 : decode cX15_end 0 = .ok (.aload_n 0, 1) := by decide +kernel
theorem dX15_end_1 : decode cX15_end 1 = .ok (.iconst 0, 1) := by decide +kernel
theorem dX15_end_2 : decode cX15_end 2 = .ok (.putfield 93, 3) := by decide +kernel
theorem dX15_end_5 : decode cX15_end 5 = .ok (.iload_n 1, 1) := by decide +kernel
theorem dX15_end_6 : decode cX15_end 6 = .ok (.iconst 0, 1) := by decide +kernel
theorem dX15_end_7 : decode cX15_end 7 = .ok (.aload_n 0, 1) := by decide +kernel
theorem dX15_end_8 : decode cX15_end 8 = .ok (.getfield 433, 3) := by decide +kernel
theorem dX15_end_11 : decode cX15_end 11 = .ok (.invokestatic 135, 3) := by decide +kernel
theorem dX15_end_14 : decode cX15_end 14 = .ok (.ifCond .ne 5, 3) := by decide +kernel
theorem dX15_end_17 : decode cX15_end 17 = .ok (.iconst (-1), 1) := by decide +kernel
theorem dX15_end_18 : decode cX15_end 18 = .ok (.ireturn, 1) := by decide +kernel
theorem dX15_end_19 : decode cX15_end 19 = .ok (.aload_n 0, 1) := by decide +kernel
theorem dX15_end_20 : decode cX15_end 20 = .ok (.iload_n 1, 1) := by decide +kernel
theorem dX15_end_21 : decode cX15_end 21 = .ok (.putfield 433, 3) := by decide +kernel
theorem dX15_end_24 : decode cX15_end 24 = .ok (.iload_n 1, 1) := by decide +kernel
theorem dX15_end_25 : decode cX15_end 25 = .ok (.ireturn, 1) := by decide +kernel
theorem dX15_raw_0 : decode cX15_raw 0 = .ok (.aload_n 0, 1) := by decide +kernel
theorem dX15_raw_1 : decode cX15_raw 1 = .ok (.iconst 0, 1) := by decide +kernel
theorem dX15_raw_2 : decode cX15_raw 2 = .ok (.putfield 93, 3) := by decide +kernel
theorem dX15_raw_5 : decode cX15_raw 5 = .ok (.aload_n 0, 1) := by decide +kernel
theorem dX15_raw_6 : decode cX15_raw 6 = .ok (.iload_n 1, 1) := by decide +kernel
theorem dX15_raw_7 : decode cX15_raw 7 = .ok (.invokevirtual 399, 3) := by decide +kernel
theorem dX15_raw_10 : decode cX15_raw 10 = .ok (.ifCond .eq 17, 3) := by decide +kernel
theorem dX15_raw_13 : decode cX15_raw 13 = .ok (.aload_n 0, 1) := by decide +kernel
theorem dX15_raw_14 : decode cX15_raw 14 = .ok (.getfield 433, 3) := by decide +kernel
theorem dX15_raw_17 : decode cX15_raw 17 = .ok (.bipush 8, 2) := by decide +kernel
theorem dX15_raw_19 : decode cX15_raw 19 = .ok (.bipush 23, 2) := by decide +kernel
theorem dX15_raw_21 : decode cX15_raw 21 = .ok (.invokestatic 135, 3) := by decide +kernel
theorem dX15_raw_24 : decode cX15_raw 24 = .ok (.ifCond .ne 5, 3) := by decide +kernel
theorem dX15_raw_27 : decode cX15_raw 27 = .ok (.iconst (-1), 1) := by decide +kernel
theorem dX15_raw_28 : decode cX15_raw 28 = .ok (.ireturn, 1) := by decide +kernel
theorem dX15_raw_29 : decode cX15_raw 29 = .ok (.aload_n 0, 1) := by decide +kernel
theorem dX15_raw_30 : decode cX15_raw 30 = .ok (.getfield 15, 3) := by decide +kernel
theorem dX15_raw_33 : decode cX15_raw 33 = .ok (.iload_n 1, 1) := by decide +kernel
theorem dX15_raw_34 : decode cX15_raw 34 = .ok (.aaload, 1) := by decide +kernel
theorem dX15_raw_35 : decode cX15_raw 35 = .ok (.getfield 96, 3) := by decide +kernel
theorem dX15_raw_38 : decode cX15_raw 38 = .ok (.bipush 8, 2) := by decide +kernel
theorem dX15_raw_40 : decode cX15_raw 40 = .ok (.if_icmp .ne 6, 3) := by decide +kernel
theorem dX15_raw_43 : decode cX15_raw 43 = .ok (.bipush (-2), 2) := by decide +kernel
theorem dX15_raw_45 : decode cX15_raw 45 = .ok (.ireturn, 1) := by decide +kernel
theorem dX15_raw_46 : decode cX15_raw 46 = .ok (.aload_n 0, 1) := by decide +kernel
theorem dX15_raw_47 : decode cX15_raw 47 = .ok (.aload_n 0, 1) := by decide +kernel
theorem dX15_raw_48 : decode cX15_raw 48 = .ok (.getfield 15, 3) := by decide +kernel
theorem dX15_raw_51 : decode cX15_raw 51 = .ok (.iload_n 1, 1) := by decide +kernel
theorem dX15_raw_52 : decode cX15_raw 52 = .ok (.aaload, 1) := by decide +kernel
theorem dX15_raw_53 : decode cX15_raw 53 = .ok (.aload_n 0, 1) := by decide +kernel
theorem dX15_raw_54 : decode cX15_raw 54 = .ok (.getfield 87, 3) := by decide +kernel
theorem dX15_raw_57 : decode cX15_raw 57 = .ok (.aload_n 0, 1) := by decide +kernel
theorem dX15_raw_58 : decode cX15_raw 58 = .ok (.getfield 433, 3) := by decide +kernel
theorem dX15_raw_61 : decode cX15_raw 61 = .ok (.invokevirtual 159, 3) := by decide +kernel
theorem dX15_raw_64 : decode cX15_raw 64 = .ok (.istore_n 2, 1) := by decide +kernel
theorem dX15_raw_65 : decode cX15_raw 65 = .ok (.aload_n 0, 1) := by decide +kernel
theorem dX15_raw_66 : decode cX15_raw 66 = .ok (.iconst 0, 1) := by decide +kernel
theorem dX15_raw_67 : decode cX15_raw 67 = .ok (.putfield 433, 3) := by decide +kernel
theorem dX15_raw_70 : decode cX15_raw 70 = .ok (.aload_n 0, 1) := by decide +kernel
theorem dX15_raw_71 : decode cX15_raw 71 = .ok (.getfield 15, 3) := by decide +kernel
theorem dX15_raw_74 : decode cX15_raw 74 = .ok (.iload_n 1, 1) := by decide +kernel
theorem dX15_raw_75 : decode cX15_raw 75 = .ok (.aaload, 1) := by decide +kernel
theorem dX15_raw_76 : decode cX15_raw 76 = .ok (.getfield 96, 3) := by decide +kernel
theorem dX15_raw_79 : decode cX15_raw 79 = .ok (.ireturn, 1) := by decide +kernel
theorem dX15_harm_0 : decode cX15_harm 0 = .ok (.aload_n 0, 1) := by decide +kernel
theorem dX15_harm_1 : decode cX15_harm 1 = .ok (.iconst 0, 1) := by decide +kernel
theorem dX15_harm_2 : decode cX15_harm 2 = .ok (.putfield 93, 3) := by decide +kernel
theorem dX15_harm_5 : decode cX15_harm 5 = .ok (.iload_n 1, 1) := by decide +kernel
theorem dX15_harm_6 : decode cX15_harm 6 = .ok (.iconst 0, 1) := by decide +kernel
theorem dX15_harm_7 : decode cX15_harm 7 = .ok (.sipush 500, 3) := by decide +kernel
theorem dX15_harm_10 : decode cX15_harm 10 = .ok (.invokestatic 135, 3) := by decide +kernel
theorem dX15_harm_13 : decode cX15_harm 13 = .ok (.ifCond .eq 24, 3) := by decide +kernel
theorem dX15_harm_16 : decode cX15_harm 16 = .ok (.iload_n 2, 1) := by decide +kernel
theorem dX15_harm_17 : decode cX15_harm 17 = .ok (.iconst 0, 1) := by decide +kernel
theorem dX15_harm_18 : decode cX15_harm 18 = .ok (.bipush 22, 2) := by decide +kernel
theorem dX15_harm_20 : decode cX15_harm 20 = .ok (.invokestatic 135, 3) := by decide +kernel
theorem dX15_harm_23 : decode cX15_harm 23 = .ok (.ifCond .eq 14, 3) := by decide +kernel
theorem dX15_harm_26 : decode cX15_harm 26 = .ok (.iload_n 3, 1) := by decide +kernel
theorem dX15_harm_27 : decode cX15_harm 27 = .ok (.iconst 1, 1) := by decide +kernel
theorem dX15_harm_28 : decode cX15_harm 28 = .ok (.sipush 255, 3) := by decide +kernel
theorem dX15_harm_31 : decode cX15_harm 31 = .ok (.invokestatic 135, 3) := by decide +kernel
theorem dX15_harm_34 : decode cX15_harm 34 = .ok (.ifCond .ne 5, 3) := by decide +kernel
theorem dX15_harm_37 : decode cX15_harm 37 = .ok (.iconst 0, 1) := by decide +kernel
theorem dX15_harm_38 : decode cX15_harm 38 = .ok (.ireturn, 1) := by decide +kernel
theorem dX15_harm_39 : decode cX15_harm 39 = .ok (.iconst 0, 1) := by decide +kernel
theorem dX15_harm_40 : decode cX15_harm 40 = .ok (.istore 4, 2) := by decide +kernel
theorem dX15_harm_42 : decode cX15_harm 42 = .ok (.iload 4, 2) := by decide +kernel
theorem dX15_harm_44 : decode cX15_harm 44 = .ok (.aload_n 0, 1) := by decide +kernel
theorem dX15_harm_45 : decode cX15_harm 45 = .ok (.getfield 295, 3) := by decide +kernel
theorem dX15_harm_48 : decode cX15_harm 48 = .ok (.if_icmp .ge 36, 3) := by decide +kernel
theorem dX15_harm_51 : decode cX15_harm 51 = .ok (.aload_n 0, 1) := by decide +kernel
theorem dX15_harm_52 : decode cX15_harm 52 = .ok (.getfield 50, 3) := by decide +kernel
theorem dX15_harm_55 : decode cX15_harm 55 = .ok (.iload 4, 2) := by decide +kernel
theorem dX15_harm_57 : decode cX15_harm 57 = .ok (.iaload, 1) := by decide +kernel
theorem dX15_harm_58 : decode cX15_harm 58 = .ok (.aload_n 0, 1) := by decide +kernel
theorem dX15_harm_59 : decode cX15_harm 59 = .ok (.getfield 298, 3) := by decide +kernel
theorem dX15_harm_62 : decode cX15_harm 62 = .ok (.iload_n 1, 1) := by decide +kernel
theorem dX15_harm_63 : decode cX15_harm 63 = .ok (.iadd, 1) := by decide +kernel
theorem dX15_harm_64 : decode cX15_harm 64 = .ok (.if_icmp .ne 14, 3) := by decide +kernel
theorem dX15_harm_67 : decode cX15_harm 67 = .ok (.aload_n 0, 1) := by decide +kernel
theorem dX15_harm_68 : decode cX15_harm 68 = .ok (.getfield 53, 3) := by decide +kernel
theorem dX15_harm_71 : decode cX15_harm 71 = .ok (.iload 4, 2) := by decide +kernel
theorem dX15_harm_73 : decode cX15_harm 73 = .ok (.iaload, 1) := by decide +kernel
theorem dX15_harm_74 : decode cX15_harm 74 = .ok (.iload_n 2, 1) := by decide +kernel
theorem dX15_harm_75 : decode cX15_harm 75 = .ok (.if_icmp .eq 9, 3) := by decide +kernel
theorem dX15_harm_78 : decode cX15_harm 78 = .ok (.iinc 4 1, 3) := by decide +kernel
theorem dX15_harm_81 : decode cX15_harm 81 = .ok (.goto (-39), 3) := by decide +kernel
theorem dX15_harm_84 : decode cX15_harm 84 = .ok (.iload 4, 2) := by decide +kernel
theorem dX15_harm_86 : decode cX15_harm 86 = .ok (.bipush 64, 2) := by decide +kernel
theorem dX15_harm_88 : decode cX15_harm 88 = .ok (.if_icmp .ne 5, 3) := by decide +kernel
theorem dX15_harm_91 : decode cX15_harm 91 = .ok (.iconst 0, 1) := by decide +kernel
theorem dX15_harm_92 : decode cX15_harm 92 = .ok (.ireturn, 1) := by decide +kernel
theorem dX15_harm_93 : decode cX15_harm 93 = .ok (.iload 4, 2) := by decide +kernel
theorem dX15_harm_95 : decode cX15_harm 95 = .ok (.aload_n 0, 1) := by decide +kernel
theorem dX15_harm_96 : decode cX15_harm 96 = .ok (.getfield 295, 3) := by decide +kernel
theorem dX15_harm_99 : decode cX15_harm 99 = .ok (.if_icmp .ne 13, 3) := by decide +kernel
theorem dX15_harm_102 : decode cX15_harm 102 = .ok (.aload_n 0, 1) := by decide +kernel
theorem dX15_harm_103 : decode cX15_harm 103 = .ok (.dup, 1) := by decide +kernel
theorem dX15_harm_104 : decode cX15_harm 104 = .ok (.getfield 295, 3) := by decide +kernel
theorem dX15_harm_107 : decode cX15_harm 107 = .ok (.iconst 1, 1) := by decide +kernel
theorem dX15_harm_108 : decode cX15_harm 108 = .ok (.iadd, 1) := by decide +kernel
theorem dX15_harm_109 : decode cX15_harm 109 = .ok (.putfield 295, 3) := by decide +kernel
theorem dX15_harm_112 : decode cX15_harm 112 = .ok (.aload_n 0, 1) := by decide +kernel
theorem dX15_harm_113 : decode cX15_harm 113 = .ok (.getfield 50, 3) := by decide +kernel
theorem dX15_harm_116 : decode cX15_harm 116 = .ok (.iload 4, 2) := by decide +kernel
theorem dX15_harm_118 : decode cX15_harm 118 = .ok (.aload_n 0, 1) := by decide +kernel
theorem dX15_harm_119 : decode cX15_harm 119 = .ok (.getfield 298, 3) := by decide +kernel
theorem dX15_harm_122 : decode cX15_harm 122 = .ok (.iload_n 1, 1) := by decide +kernel
theorem dX15_harm_123 : decode cX15_harm 123 = .ok (.iadd, 1) := by decide +kernel
theorem dX15_harm_124 : decode cX15_harm 124 = .ok (.iastore, 1) := by decide +kernel
theorem dX15_harm_125 : decode cX15_harm 125 = .ok (.aload_n 0, 1) := by decide +kernel
theorem dX15_harm_126 : decode cX15_harm 126 = .ok (.getfield 53, 3) := by decide +kernel
theorem dX15_harm_129 : decode cX15_harm 129 = .ok (.iload 4, 2) := by decide +kernel
theorem dX15_harm_131 : decode cX15_harm 131 = .ok (.iload_n 2, 1) := by decide +kernel
theorem dX15_harm_132 : decode cX15_harm 132 = .ok (.iastore, 1) := by decide +kernel
theorem dX15_harm_133 : decode cX15_harm 133 = .ok (.aload_n 0, 1) := by decide +kernel
theorem dX15_harm_134 : decode cX15_harm 134 = .ok (.getfield 56, 3) := by decide +kernel
theorem dX15_harm_137 : decode cX15_harm 137 = .ok (.iload 4, 2) := by decide +kernel
theorem dX15_harm_139 : decode cX15_harm 139 = .ok (.iload_n 3, 1) := by decide +kernel
theorem dX15_harm_140 : decode cX15_harm 140 = .ok (.iastore, 1) := by decide +kernel
theorem dX15_harm_141 : decode cX15_harm 141 = .ok (.iconst 1, 1) := by decide +kernel
theorem dX15_harm_142 : decode cX15_harm 142 = .ok (.ireturn, 1) := by decide +kernel
theorem dX15_step_0 : decode cX15_step 0 = .ok (.aload_n 0, 1) := by decide +kernel
theorem dX15_step_1 : decode cX15_step 1 = .ok (.iload_n 1, 1) := by decide +kernel
theorem dX15_step_2 : decode cX15_step 2 = .ok (.iconst 1, 1) := by decide +kernel
theorem dX15_step_3 : decode cX15_step 3 = .ok (.sipush 200, 3) := by decide +kernel
theorem dX15_step_6 : decode cX15_step 6 = .ok (.invokestatic 135, 3) := by decide +kernel
theorem dX15_step_9 : decode cX15_step 9 = .ok (.ifCond .eq 7, 3) := by decide +kernel
theorem dX15_step_12 : decode cX15_step 12 = .ok (.iconst 0, 1) := by decide +kernel
theorem dX15_step_13 : decode cX15_step 13 = .ok (.goto 4, 3) := by decide +kernel
theorem dX15_step_16 : decode cX15_step 16 = .ok (.iconst 1, 1) := by decide +kernel
theorem dX15_step_17 : decode cX15_step 17 = .ok (.putfield 93, 3) := by decide +kernel
theorem dX15_step_20 : decode cX15_step 20 = .ok (.aload_n 0, 1) := by decide +kernel
theorem dX15_step_21 : decode cX15_step 21 = .ok (.getfield 93, 3) := by decide +kernel
theorem dX15_step_24 : decode cX15_step 24 = .ok (.ifCond .le 5, 3) := by decide +kernel
theorem dX15_step_27 : decode cX15_step 27 = .ok (.iconst 0, 1) := by decide +kernel
theorem dX15_step_28 : decode cX15_step 28 = .ok (.ireturn, 1) := by decide +kernel
theorem dX15_step_29 : decode cX15_step 29 = .ok (.aload_n 0, 1) := by decide +kernel
theorem dX15_step_30 : decode cX15_step 30 = .ok (.getfield 298, 3) := by decide +kernel
theorem dX15_step_33 : decode cX15_step 33 = .ok (.istore_n 2, 1) := by decide +kernel
theorem dX15_step_34 : decode cX15_step 34 = .ok (.iconst 0, 1) := by decide +kernel
theorem dX15_step_35 : decode cX15_step 35 = .ok (.istore_n 3, 1) := by decide +kernel
theorem dX15_step_36 : decode cX15_step 36 = .ok (.iload_n 3, 1) := by decide +kernel
theorem dX15_step_37 : decode cX15_step 37 = .ok (.iload_n 1, 1) := by decide +kernel
theorem dX15_step_38 : decode cX15_step 38 = .ok (.if_icmp .ge 72, 3) := by decide +kernel
theorem dX15_step_41 : decode cX15_step 41 = .ok (.aload_n 0, 1) := by decide +kernel
theorem dX15_step_42 : decode cX15_step 42 = .ok (.dup, 1) := by decide +kernel
theorem dX15_step_43 : decode cX15_step 43 = .ok (.getfield 112, 3) := by decide +kernel
theorem dX15_step_46 : decode cX15_step 46 = .ok (.iconst 1, 1) := by decide +kernel
theorem dX15_step_47 : decode cX15_step 47 = .ok (.iadd, 1) := by decide +kernel
theorem dX15_step_48 : decode cX15_step 48 = .ok (.putfield 112, 3) := by decide +kernel
theorem dX15_step_51 : decode cX15_step 51 = .ok (.iconst 0, 1) := by decide +kernel
theorem dX15_step_52 : decode cX15_step 52 = .ok (.istore 4, 2) := by decide +kernel
theorem dX15_step_54 : decode cX15_step 54 = .ok (.iload 4, 2) := by decide +kernel
theorem dX15_step_56 : decode cX15_step 56 = .ok (.aload_n 0, 1) := by decide +kernel
theorem dX15_step_57 : decode cX15_step 57 = .ok (.getfield 132, 3) := by decide +kernel
theorem dX15_step_60 : decode cX15_step 60 = .ok (.if_icmp .ge 15, 3) := by decide +kernel
theorem dX15_step_63 : decode cX15_step 63 = .ok (.aload_n 0, 1) := by decide +kernel
theorem dX15_step_64 : decode cX15_step 64 = .ok (.iload 4, 2) := by decide +kernel
theorem dX15_step_66 : decode cX15_step 66 = .ok (.invokevirtual 436, 3) := by decide +kernel
theorem dX15_step_69 : decode cX15_step 69 = .ok (.iinc 4 1, 3) := by decide +kernel
theorem dX15_step_72 : decode cX15_step 72 = .ok (.goto (-18), 3) := by decide +kernel
theorem dX15_step_75 : decode cX15_step 75 = .ok (.iconst 0, 1) := by decide +kernel
theorem dX15_step_76 : decode cX15_step 76 = .ok (.istore 4, 2) := by decide +kernel
theorem dX15_step_78 : decode cX15_step 78 = .ok (.iload 4, 2) := by decide +kernel
theorem dX15_step_80 : decode cX15_step 80 = .ok (.aload_n 0, 1) := by decide +kernel
theorem dX15_step_81 : decode cX15_step 81 = .ok (.getfield 139, 3) := by decide +kernel
theorem dX15_step_84 : decode cX15_step 84 = .ok (.if_icmp .ge 20, 3) := by decide +kernel
theorem dX15_step_87 : decode cX15_step 87 = .ok (.aload_n 0, 1) := by decide +kernel
theorem dX15_step_88 : decode cX15_step 88 = .ok (.aload_n 0, 1) := by decide +kernel
theorem dX15_step_89 : decode cX15_step 89 = .ok (.getfield 21, 3) := by decide +kernel
theorem dX15_step_92 : decode cX15_step 92 = .ok (.iload 4, 2) := by decide +kernel
theorem dX15_step_94 : decode cX15_step 94 = .ok (.aaload, 1) := by decide +kernel
theorem dX15_step_95 : decode cX15_step 95 = .ok (.invokevirtual 439, 3) := by decide +kernel
theorem dX15_step_98 : decode cX15_step 98 = .ok (.iinc 4 1, 3) := by decide +kernel
theorem dX15_step_101 : decode cX15_step 101 = .ok (.goto (-23), 3) := by decide +kernel
theorem dX15_step_104 : decode cX15_step 104 = .ok (.iinc 3 1, 3) := by decide +kernel
theorem dX15_step_107 : decode cX15_step 107 = .ok (.goto (-71), 3) := by decide +kernel
theorem dX15_step_110 : decode cX15_step 110 = .ok (.aload_n 0, 1) := by decide +kernel
theorem dX15_step_111 : decode cX15_step 111 = .ok (.getfield 298, 3) := by decide +kernel
theorem dX15_step_114 : decode cX15_step 114 = .ok (.iload_n 2, 1) := by decide +kernel
theorem dX15_step_115 : decode cX15_step 115 = .ok (.isub, 1) := by decide +kernel
theorem dX15_step_116 : decode cX15_step 116 = .ok (.ireturn, 1) := by decide +kernel
theorem dX15_sent_0 : decode cX15_sent 0 = .ok (.aload_n 0, 1) := by decide +kernel
theorem dX15_sent_1 : decode cX15_sent 1 = .ok (.aload_n 0, 1) := by decide +kernel
theorem dX15_sent_2 : decode cX15_sent 2 = .ok (.getfield 292, 3) := by decide +kernel
theorem dX15_sent_5 : decode cX15_sent 5 = .ok (.ifCond .le 26, 3) := by decide +kernel
theorem dX15_sent_8 : decode cX15_sent 8 = .ok (.iload_n 1, 1) := by decide +kernel
theorem dX15_sent_9 : decode cX15_sent 9 = .ok (.iconst (-1), 1) := by decide +kernel
theorem dX15_sent_10 : decode cX15_sent 10 = .ok (.if_icmp .eq 17, 3) := by decide +kernel
theorem dX15_sent_13 : decode cX15_sent 13 = .ok (.iload_n 1, 1) := by decide +kernel
theorem dX15_sent_14 : decode cX15_sent 14 = .ok (.iconst 0, 1) := by decide +kernel
theorem dX15_sent_15 : decode cX15_sent 15 = .ok (.aload_n 0, 1) := by decide +kernel
theorem dX15_sent_16 : decode cX15_sent 16 = .ok (.getfield 292, 3) := by decide +kernel
theorem dX15_sent_19 : decode cX15_sent 19 = .ok (.iconst 1, 1) := by decide +kernel
theorem dX15_sent_20 : decode cX15_sent 20 = .ok (.isub, 1) := by decide +kernel
theorem dX15_sent_21 : decode cX15_sent 21 = .ok (.invokestatic 135, 3) := by decide +kernel
theorem dX15_sent_24 : decode cX15_sent 24 = .ok (.ifCond .eq 7, 3) := by decide +kernel
theorem dX15_sent_27 : decode cX15_sent 27 = .ok (.iconst 0, 1) := by decide +kernel
theorem dX15_sent_28 : decode cX15_sent 28 = .ok (.goto 4, 3) := by decide +kernel
theorem dX15_sent_31 : decode cX15_sent 31 = .ok (.iconst 1, 1) := by decide +kernel
theorem dX15_sent_32 : decode cX15_sent 32 = .ok (.putfield 93, 3) := by decide +kernel
theorem dX15_sent_35 : decode cX15_sent 35 = .ok (.aload_n 0, 1) := by decide +kernel
theorem dX15_sent_36 : decode cX15_sent 36 = .ok (.getfield 93, 3) := by decide +kernel
theorem dX15_sent_39 : decode cX15_sent 39 = .ok (.ifCond .le 7, 3) := by decide +kernel
theorem dX15_sent_42 : decode cX15_sent 42 = .ok (.iconst 0, 1) := by decide +kernel
theorem dX15_sent_43 : decode cX15_sent 43 = .ok (.goto 21, 3) := by decide +kernel
theorem dX15_sent_46 : decode cX15_sent 46 = .ok (.iload_n 1, 1) := by decide +kernel
theorem dX15_sent_47 : decode cX15_sent 47 = .ok (.iconst (-1), 1) := by decide +kernel
theorem dX15_sent_48 : decode cX15_sent 48 = .ok (.if_icmp .ne 10, 3) := by decide +kernel
theorem dX15_sent_51 : decode cX15_sent 51 = .ok (.aload_n 0, 1) := by decide +kernel
theorem dX15_sent_52 : decode cX15_sent 52 = .ok (.getfield 292, 3) := by decide +kernel
theorem dX15_sent_55 : decode cX15_sent 55 = .ok (.goto 9, 3) := by decide +kernel
theorem dX15_sent_58 : decode cX15_sent 58 = .ok (.aload_n 0, 1) := by decide +kernel
theorem dX15_sent_59 : decode cX15_sent 59 = .ok (.getfield 47, 3) := by decide +kernel
theorem dX15_sent_62 : decode cX15_sent 62 = .ok (.iload_n 1, 1) := by decide +kernel
theorem dX15_sent_63 : decode cX15_sent 63 = .ok (.iaload, 1) := by decide +kernel
theorem dX15_sent_64 : decode cX15_sent 64 = .ok (.ireturn, 1) := by decide +kernel
theorem dX15_count_0 : decode cX15_count 0 = .ok (.aload_n 0, 1) := by decide +kernel
theorem dX15_count_1 : decode cX15_count 1 = .ok (.iconst 0, 1) := by decide +kernel
theorem dX15_count_2 : decode cX15_count 2 = .ok (.putfield 93, 3) := by decide +kernel
theorem dX15_count_5 : decode cX15_count 5 = .ok (.iconst 0, 1) := by decide +kernel
theorem dX15_count_6 : decode cX15_count 6 = .ok (.istore_n 2, 1) := by decide +kernel
theorem dX15_count_7 : decode cX15_count 7 = .ok (.iload_n 1, 1) := by decide +kernel
theorem dX15_count_8 : decode cX15_count 8 = .ok (.tableswitch 246 0 13 #[72, 77, 82, 87, 92, 97, 102, 107, 112, 117, 122, 127, 236, 241], 72) := by decide +kernel
theorem dX15_count_80 : decode cX15_count 80 = .ok (.aload_n 0, 1) := by decide +kernel
theorem dX15_count_81 : decode cX15_count 81 = .ok (.getfield 112, 3) := by decide +kernel
theorem dX15_count_84 : decode cX15_count 84 = .ok (.ireturn, 1) := by decide +kernel
theorem dX15_count_85 : decode cX15_count 85 = .ok (.aload_n 0, 1) := by decide +kernel
theorem dX15_count_86 : decode cX15_count 86 = .ok (.getfield 132, 3) := by decide +kernel
theorem dX15_count_89 : decode cX15_count 89 = .ok (.ireturn, 1) := by decide +kernel
theorem dX15_count_90 : decode cX15_count 90 = .ok (.aload_n 0, 1) := by decide +kernel
theorem dX15_count_91 : decode cX15_count 91 = .ok (.getfield 139, 3) := by decide +kernel
theorem dX15_count_94 : decode cX15_count 94 = .ok (.ireturn, 1) := by decide +kernel
theorem dX15_count_95 : decode cX15_count 95 = .ok (.aload_n 0, 1) := by decide +kernel
theorem dX15_count_96 : decode cX15_count 96 = .ok (.getfield 142, 3) := by decide +kernel
theorem dX15_count_99 : decode cX15_count 99 = .ok (.ireturn, 1) := by decide +kernel
theorem dX15_count_100 : decode cX15_count 100 = .ok (.aload_n 0, 1) := by decide +kernel
theorem dX15_count_101 : decode cX15_count 101 = .ok (.getfield 298, 3) := by decide +kernel
theorem dX15_count_104 : decode cX15_count 104 = .ok (.ireturn, 1) := by decide +kernel
theorem dX15_count_105 : decode cX15_count 105 = .ok (.aload_n 0, 1) := by decide +kernel
theorem dX15_count_106 : decode cX15_count 106 = .ok (.getfield 390, 3) := by decide +kernel
theorem dX15_count_109 : decode cX15_count 109 = .ok (.ireturn, 1) := by decide +kernel
theorem dX15_count_110 : decode cX15_count 110 = .ok (.aload_n 0, 1) := by decide +kernel
theorem dX15_count_111 : decode cX15_count 111 = .ok (.getfield 393, 3) := by decide +kernel
theorem dX15_count_114 : decode cX15_count 114 = .ok (.ireturn, 1) := by decide +kernel
theorem dX15_count_115 : decode cX15_count 115 = .ok (.aload_n 0, 1) := by decide +kernel
theorem dX15_count_116 : decode cX15_count 116 = .ok (.getfield 99, 3) := by decide +kernel
theorem dX15_count_119 : decode cX15_count 119 = .ok (.ireturn, 1) := by decide +kernel
theorem dX15_count_120 : decode cX15_count 120 = .ok (.aload_n 0, 1) := by decide +kernel
theorem dX15_count_121 : decode cX15_count 121 = .ok (.getfield 343, 3) := by decide +kernel
theorem dX15_count_124 : decode cX15_count 124 = .ok (.ireturn, 1) := by decide +kernel
theorem dX15_count_125 : decode cX15_count 125 = .ok (.aload_n 0, 1) := by decide +kernel
theorem dX15_count_126 : decode cX15_count 126 = .ok (.getfield 381, 3) := by decide +kernel
theorem dX15_count_129 : decode cX15_count 129 = .ok (.ireturn, 1) := by decide +kernel
theorem dX15_count_130 : decode cX15_count 130 = .ok (.aload_n 0, 1) := by decide +kernel
theorem dX15_count_131 : decode cX15_count 131 = .ok (.getfield 43, 3) := by decide +kernel
theorem dX15_count_134 : decode cX15_count 134 = .ok (.ireturn, 1) := by decide +kernel
theorem dX15_count_135 : decode cX15_count 135 = .ok (.iconst 0, 1) := by decide +kernel
theorem dX15_count_136 : decode cX15_count 136 = .ok (.istore_n 3, 1) := by decide +kernel
theorem dX15_count_137 : decode cX15_count 137 = .ok (.iload_n 3, 1) := by decide +kernel
theorem dX15_count_138 : decode cX15_count 138 = .ok (.aload_n 0, 1) := by decide +kernel
theorem dX15_count_139 : decode cX15_count 139 = .ok (.getfield 139, 3) := by decide +kernel
theorem dX15_count_142 : decode cX15_count 142 = .ok (.if_icmp .ge 24, 3) := by decide +kernel
theorem dX15_count_145 : decode cX15_count 145 = .ok (.iload_n 2, 1) := by decide +kernel
theorem dX15_count_146 : decode cX15_count 146 = .ok (.aload_n 0, 1) := by decide +kernel
theorem dX15_count_147 : decode cX15_count 147 = .ok (.getfield 21, 3) := by decide +kernel
theorem dX15_count_150 : decode cX15_count 150 = .ok (.iload_n 3, 1) := by decide +kernel
theorem dX15_count_151 : decode cX15_count 151 = .ok (.aaload, 1) := by decide +kernel
theorem dX15_count_152 : decode cX15_count 152 = .ok (.getfield 155, 3) := by decide +kernel
theorem dX15_count_155 : decode cX15_count 155 = .ok (.getfield 96, 3) := by decide +kernel
theorem dX15_count_158 : decode cX15_count 158 = .ok (.iadd, 1) := by decide +kernel
theorem dX15_count_159 : decode cX15_count 159 = .ok (.istore_n 2, 1) := by decide +kernel
theorem dX15_count_160 : decode cX15_count 160 = .ok (.iinc 3 1, 3) := by decide +kernel
theorem dX15_count_163 : decode cX15_count 163 = .ok (.goto (-26), 3) := by decide +kernel
theorem dX15_count_166 : decode cX15_count 166 = .ok (.iconst 0, 1) := by decide +kernel
theorem dX15_count_167 : decode cX15_count 167 = .ok (.istore_n 3, 1) := by decide +kernel
theorem dX15_count_168 : decode cX15_count 168 = .ok (.iload_n 3, 1) := by decide +kernel
theorem dX15_count_169 : decode cX15_count 169 = .ok (.aload_n 0, 1) := by decide +kernel
theorem dX15_count_170 : decode cX15_count 170 = .ok (.getfield 142, 3) := by decide +kernel
theorem dX15_count_173 : decode cX15_count 173 = .ok (.if_icmp .ge 41, 3) := by decide +kernel
theorem dX15_count_176 : decode cX15_count 176 = .ok (.iload_n 2, 1) := by decide +kernel
theorem dX15_count_177 : decode cX15_count 177 = .ok (.aload_n 0, 1) := by decide +kernel
theorem dX15_count_178 : decode cX15_count 178 = .ok (.getfield 27, 3) := by decide +kernel
theorem dX15_count_181 : decode cX15_count 181 = .ok (.iload_n 3, 1) := by decide +kernel
theorem dX15_count_182 : decode cX15_count 182 = .ok (.aaload, 1) := by decide +kernel
theorem dX15_count_183 : decode cX15_count 183 = .ok (.getfield 280, 3) := by decide +kernel
theorem dX15_count_186 : decode cX15_count 186 = .ok (.iconst 0, 1) := by decide +kernel
theorem dX15_count_187 : decode cX15_count 187 = .ok (.aaload, 1) := by decide +kernel
theorem dX15_count_188 : decode cX15_count 188 = .ok (.getfield 96, 3) := by decide +kernel
theorem dX15_count_191 : decode cX15_count 191 = .ok (.aload_n 0, 1) := by decide +kernel
theorem dX15_count_192 : decode cX15_count 192 = .ok (.getfield 27, 3) := by decide +kernel
theorem dX15_count_195 : decode cX15_count 195 = .ok (.iload_n 3, 1) := by decide +kernel
theorem dX15_count_196 : decode cX15_count 196 = .ok (.aaload, 1) := by decide +kernel
theorem dX15_count_197 : decode cX15_count 197 = .ok (.getfield 280, 3) := by decide +kernel
theorem dX15_count_200 : decode cX15_count 200 = .ok (.iconst 1, 1) := by decide +kernel
theorem dX15_count_201 : decode cX15_count 201 = .ok (.aaload, 1) := by decide +kernel
theorem dX15_count_202 : decode cX15_count 202 = .ok (.getfield 96, 3) := by decide +kernel
theorem dX15_count_205 : decode cX15_count 205 = .ok (.iadd, 1) := by decide +kernel
theorem dX15_count_206 : decode cX15_count 206 = .ok (.iadd, 1) := by decide +kernel
theorem dX15_count_207 : decode cX15_count 207 = .ok (.istore_n 2, 1) := by decide +kernel
theorem dX15_count_208 : decode cX15_count 208 = .ok (.iinc 3 1, 3) := by decide +kernel
theorem dX15_count_211 : decode cX15_count 211 = .ok (.goto (-43), 3) := by decide +kernel
theorem dX15_count_214 : decode cX15_count 214 = .ok (.iconst 0, 1) := by decide +kernel
theorem dX15_count_215 : decode cX15_count 215 = .ok (.istore_n 3, 1) := by decide +kernel
theorem dX15_count_216 : decode cX15_count 216 = .ok (.iload_n 3, 1) := by decide +kernel
theorem dX15_count_217 : decode cX15_count 217 = .ok (.aload_n 0, 1) := by decide +kernel
theorem dX15_count_218 : decode cX15_count 218 = .ok (.getfield 132, 3) := by decide +kernel
theorem dX15_count_221 : decode cX15_count 221 = .ok (.if_icmp .ge 21, 3) := by decide +kernel
theorem dX15_count_224 : decode cX15_count 224 = .ok (.iload_n 2, 1) := by decide +kernel
theorem dX15_count_225 : decode cX15_count 225 = .ok (.aload_n 0, 1) := by decide +kernel
theorem dX15_count_226 : decode cX15_count 226 = .ok (.getfield 15, 3) := by decide +kernel
theorem dX15_count_229 : decode cX15_count 229 = .ok (.iload_n 3, 1) := by decide +kernel
theorem dX15_count_230 : decode cX15_count 230 = .ok (.aaload, 1) := by decide +kernel
theorem dX15_count_231 : decode cX15_count 231 = .ok (.getfield 96, 3) := by decide +kernel
theorem dX15_count_234 : decode cX15_count 234 = .ok (.iadd, 1) := by decide +kernel
theorem dX15_count_235 : decode cX15_count 235 = .ok (.istore_n 2, 1) := by decide +kernel
theorem dX15_count_236 : decode cX15_count 236 = .ok (.iinc 3 1, 3) := by decide +kernel
theorem dX15_count_239 : decode cX15_count 239 = .ok (.goto (-23), 3) := by decide +kernel
theorem dX15_count_242 : decode cX15_count 242 = .ok (.iload_n 2, 1) := by decide +kernel
theorem dX15_count_243 : decode cX15_count 243 = .ok (.ireturn, 1) := by decide +kernel
theorem dX15_count_244 : decode cX15_count 244 = .ok (.aload_n 0, 1) := by decide +kernel
theorem dX15_count_245 : decode cX15_count 245 = .ok (.getfield 295, 3) := by decide +kernel
theorem dX15_count_248 : decode cX15_count 248 = .ok (.ireturn, 1) := by decide +kernel
theorem dX15_count_249 : decode cX15_count 249 = .ok (.aload_n 0, 1) := by decide +kernel
theorem dX15_count_250 : decode cX15_count 250 = .ok (.getfield 433, 3) := by decide +kernel
theorem dX15_count_253 : decode cX15_count 253 = .ok (.ireturn, 1) := by decide +kernel
theorem dX15_count_254 : decode cX15_count 254 = .ok (.iconst (-1), 1) := by decide +kernel
theorem dX15_count_255 : decode cX15_count 255 = .ok (.ireturn, 1) := by decide +kernel
end
section
def rm_X0_close : Room := { frames := 2, cells := 0, slots := 0, locals := 46 }
def rm_X0_init : Room := { frames := 2, cells := 4, slots := 104, locals := 40 }
def rm_X0_join : Room := { frames := 1, cells := 0, slots := 0, locals := 24 }
def rm_X0_orderRead : Room := { frames := 2, cells := 0, slots := 0, locals := 46 }
def rm_X0_orderWrite : Room := { frames := 2, cells := 0, slots := 0, locals := 46 }
def rm_X0_tell : Room := { frames := 0, cells := 0, slots := 0, locals := 0 }
def rm_X0_tick : Room := { frames := 4, cells := 0, slots := 0, locals := 86 }
def rm_X10_init : Room := { frames := 1, cells := 1, slots := 23, locals := 20 }
def rm_X11_ask : Room := { frames := 3, cells := 0, slots := 0, locals := 73 }
def rm_X11_busy : Room := { frames := 2, cells := 0, slots := 0, locals := 43 }
def rm_X11_connect : Room := { frames := 2, cells := 0, slots := 0, locals := 45 }
def rm_X11_connection : Room := { frames := 2, cells := 0, slots := 0, locals := 43 }
def rm_X11_count : Room := { frames := 0, cells := 0, slots := 0, locals := 0 }
def rm_X11_coupler : Room := { frames := 4, cells := 0, slots := 0, locals := 85 }
def rm_X11_device : Room := { frames := 4, cells := 0, slots := 0, locals := 85 }
def rm_X11_deviceAt : Room := { frames := 1, cells := 0, slots := 0, locals := 22 }
def rm_X11_disconnect : Room := { frames := 3, cells := 0, slots := 0, locals := 66 }
def rm_X11_end : Room := { frames := 0, cells := 0, slots := 0, locals := 0 }
def rm_X11_feed : Room := { frames := 1, cells := 0, slots := 0, locals := 22 }
def rm_X11_feedNumber : Room := { frames := 0, cells := 0, slots := 0, locals := 0 }
def rm_X11_filter : Room := { frames := 2, cells := 0, slots := 0, locals := 45 }
def rm_X11_filterAt : Room := { frames := 1, cells := 0, slots := 0, locals := 22 }
def rm_X11_flags : Room := { frames := 3, cells := 0, slots := 0, locals := 66 }
def rm_X11_harm : Room := { frames := 1, cells := 0, slots := 0, locals := 24 }
def rm_X11_hasDeviceOf : Room := { frames := 0, cells := 0, slots := 0, locals := 0 }
def rm_X11_hundredths : Room := { frames := 3, cells := 0, slots := 0, locals := 66 }
def rm_X11_init : Room := { frames := 2, cells := 14, slots := 364, locals := 40 }
def rm_X11_isWithin : Room := { frames := 0, cells := 0, slots := 0, locals := 0 }
def rm_X11_joinLines : Room := { frames := 2, cells := 0, slots := 0, locals := 45 }
def rm_X11_line : Room := { frames := 4, cells := 20, slots := 270, locals := 85 }
def rm_X11_lineAt : Room := { frames := 1, cells := 0, slots := 0, locals := 22 }
def rm_X11_lineOfNumber : Room := { frames := 0, cells := 0, slots := 0, locals := 0 }
def rm_X11_link : Room := { frames := 3, cells := 0, slots := 0, locals := 66 }
def rm_X11_memory : Room := { frames := 2, cells := 0, slots := 0, locals := 43 }
def rm_X11_mode : Room := { frames := 2, cells := 0, slots := 0, locals := 43 }
def rm_X11_object : Room := { frames := 3, cells := 0, slots := 0, locals := 66 }
def rm_X11_objectAt : Room := { frames := 2, cells := 0, slots := 0, locals := 43 }
def rm_X11_peek : Room := { frames := 3, cells := 0, slots := 0, locals := 68 }
def rm_X11_point : Room := { frames := 4, cells := 0, slots := 0, locals := 99 }
def rm_X11_poke : Room := { frames := 3, cells := 0, slots := 0, locals := 70 }
def rm_X11_raw : Room := { frames := 6, cells := 0, slots := 0, locals := 90 }
def rm_X11_reply : Room := { frames := 2, cells := 0, slots := 0, locals := 43 }
def rm_X11_sent : Room := { frames := 6, cells := 0, slots := 0, locals := 90 }
def rm_X11_set : Room := { frames := 3, cells := 0, slots := 0, locals := 75 }
def rm_X11_step : Room := { frames := 10, cells := 0, slots := 0, locals := 193 }
def rm_X11_store : Room := { frames := 2, cells := 0, slots := 0, locals := 43 }
def rm_X11_transmit : Room := { frames := 9, cells := 0, slots := 0, locals := 163 }
def rm_X11_updated : Room := { frames := 3, cells := 0, slots := 0, locals := 66 }
def rm_X11_value : Room := { frames := 3, cells := 0, slots := 0, locals := 66 }
def rm_X11_withPoint : Room := { frames := 1, cells := 0, slots := 0, locals := 22 }
def rm_X12_init : Room := { frames := 2, cells := 35, slots := 578, locals := 40 }
def rm_X13_init : Room := { frames := 2, cells := 25, slots := 453, locals := 40 }
def rm_X14_init : Room := { frames := 1, cells := 13, slots := 224, locals := 20 }
def rm_X15_ask : Room := { frames := 3, cells := 0, slots := 0, locals := 65 }
def rm_X15_busy : Room := { frames := 2, cells := 0, slots := 0, locals := 43 }
def rm_X15_closes : Room := { frames := 3, cells := 0, slots := 0, locals := 74 }
def rm_X15_comes : Room := { frames := 0, cells := 0, slots := 0, locals := 0 }
def rm_X15_connect : Room := { frames := 3, cells := 0, slots := 0, locals := 74 }
def rm_X15_connection : Room := { frames := 2, cells := 0, slots := 0, locals := 43 }
def rm_X15_count : Room := { frames := 0, cells := 0, slots := 0, locals := 0 }
def rm_X15_coupler : Room := { frames := 2, cells := 0, slots := 0, locals := 43 }
def rm_X15_device : Room := { frames := 2, cells := 0, slots := 0, locals := 43 }
def rm_X15_disconnect : Room := { frames := 4, cells := 0, slots := 0, locals := 96 }
def rm_X15_end : Room := { frames := 1, cells := 0, slots := 0, locals := 22 }
def rm_X15_feed : Room := { frames := 0, cells := 0, slots := 0, locals := 0 }
def rm_X15_filter : Room := { frames := 2, cells := 0, slots := 0, locals := 43 }
def rm_X15_flags : Room := { frames := 3, cells := 0, slots := 0, locals := 65 }
def rm_X15_goesOn : Room := { frames := 9, cells := 0, slots := 0, locals := 214 }
def rm_X15_harm : Room := { frames := 1, cells := 0, slots := 0, locals := 22 }
def rm_X15_hundredths : Room := { frames := 3, cells := 0, slots := 0, locals := 65 }
def rm_X15_in : Room := { frames := 0, cells := 0, slots := 0, locals := 0 }
def rm_X15_init : Room := { frames := 3, cells := 910, slots := 16421, locals := 60 }
def rm_X15_isCoupler : Room := { frames := 1, cells := 0, slots := 0, locals := 22 }
def rm_X15_isDevice : Room := { frames := 1, cells := 0, slots := 0, locals := 22 }
def rm_X15_isJoined : Room := { frames := 0, cells := 0, slots := 0, locals := 0 }
def rm_X15_isLine : Room := { frames := 1, cells := 0, slots := 0, locals := 22 }
def rm_X15_isObject : Room := { frames := 2, cells := 0, slots := 0, locals := 43 }
def rm_X15_line : Room := { frames := 1, cells := 0, slots := 0, locals := 23 }
def rm_X15_lineOf : Room := { frames := 0, cells := 0, slots := 0, locals := 0 }
def rm_X15_link : Room := { frames := 3, cells := 0, slots := 0, locals := 65 }
def rm_X15_mayOrder : Room := { frames := 2, cells := 0, slots := 0, locals := 43 }
def rm_X15_memory : Room := { frames := 2, cells := 0, slots := 0, locals := 43 }
def rm_X15_mode : Room := { frames := 2, cells := 0, slots := 0, locals := 43 }
def rm_X15_object : Room := { frames := 2, cells := 0, slots := 0, locals := 43 }
def rm_X15_ownGroup : Room := { frames := 0, cells := 0, slots := 0, locals := 0 }
def rm_X15_peek : Room := { frames := 3, cells := 0, slots := 0, locals := 75 }
def rm_X15_point : Room := { frames := 4, cells := 0, slots := 0, locals := 102 }
def rm_X15_poke : Room := { frames := 3, cells := 0, slots := 0, locals := 75 }
def rm_X15_raw : Room := { frames := 2, cells := 0, slots := 0, locals := 43 }
def rm_X15_reply : Room := { frames := 2, cells := 0, slots := 0, locals := 43 }
def rm_X15_sendsData : Room := { frames := 2, cells := 0, slots := 0, locals := 51 }
def rm_X15_sent : Room := { frames := 1, cells := 0, slots := 0, locals := 22 }
def rm_X15_set : Room := { frames := 4, cells := 0, slots := 0, locals := 102 }
def rm_X15_sets : Room := { frames := 3, cells := 0, slots := 0, locals := 77 }
def rm_X15_step : Room := { frames := 10, cells := 0, slots := 0, locals := 240 }
def rm_X15_store : Room := { frames := 2, cells := 0, slots := 0, locals := 43 }
def rm_X15_tells : Room := { frames := 1, cells := 0, slots := 0, locals := 24 }
def rm_X15_tellsOne : Room := { frames := 2, cells := 0, slots := 0, locals := 51 }
def rm_X15_thrown : Room := { frames := 0, cells := 0, slots := 0, locals := 0 }
def rm_X15_times : Room := { frames := 5, cells := 0, slots := 0, locals := 118 }
def rm_X15_updated : Room := { frames := 3, cells := 0, slots := 0, locals := 65 }
def rm_X15_value : Room := { frames := 3, cells := 0, slots := 0, locals := 65 }
def rm_X1_addLink : Room := { frames := 2, cells := 0, slots := 0, locals := 43 }
def rm_X1_addObject : Room := { frames := 2, cells := 1, slots := 5, locals := 43 }
def rm_X1_askGroup : Room := { frames := 2, cells := 0, slots := 0, locals := 50 }
def rm_X1_changeObject : Room := { frames := 2, cells := 0, slots := 0, locals := 50 }
def rm_X1_findObject : Room := { frames := 1, cells := 0, slots := 0, locals := 22 }
def rm_X1_init : Room := { frames := 3, cells := 5, slots := 88, locals := 61 }
def rm_X2_change : Room := { frames := 1, cells := 0, slots := 0, locals := 22 }
def rm_X2_init : Room := { frames := 1, cells := 1, slots := 64, locals := 20 }
def rm_X4_add : Room := { frames := 0, cells := 0, slots := 0, locals := 0 }
def rm_X4_init : Room := { frames := 1, cells := 3, slots := 192, locals := 20 }
def rm_X5_addDevice : Room := { frames := 0, cells := 0, slots := 0, locals := 0 }
def rm_X5_addPort : Room := { frames := 0, cells := 0, slots := 0, locals := 0 }
def rm_X5_chooseSender : Room := { frames := 3, cells := 0, slots := 0, locals := 61 }
def rm_X5_init : Room := { frames := 3, cells := 19, slots := 264, locals := 62 }
def rm_X5_isJoinedWith : Room := { frames := 0, cells := 0, slots := 0, locals := 0 }
def rm_X6_init : Room := { frames := 3, cells := 2, slots := 28, locals := 61 }
def rm_X7_add : Room := { frames := 0, cells := 0, slots := 0, locals := 0 }
def rm_X7_init : Room := { frames := 2, cells := 17, slots := 232, locals := 40 }
def rm_X7_isFull : Room := { frames := 0, cells := 0, slots := 0, locals := 0 }
def rm_X9_init : Room := { frames := 1, cells := 0, slots := 0, locals := 20 }
theorem zin_X4 : ∀ w ∈ u_ws RX4 TX4 4, w ∈ zT := zT_lay [83, 85, 87, 89] (by decide +kernel) (by decide +kernel)
theorem zin_X10 : ∀ w ∈ u_ws RX10 TX10 5, w ∈ zT := zT_lay [117, 119, 121, 123, 125] (by decide +kernel) (by decide +kernel)
theorem zin_X7 : ∀ w ∈ u_ws RX7 TX7 3, w ∈ zT := zT_lay [206, 208, 210] (by decide +kernel) (by decide +kernel)
theorem zin_X5 : ∀ w ∈ u_ws RX5 TX5 6, w ∈ zT := zT_lay [226, 228, 230, 232, 234, 236] (by decide +kernel) (by decide +kernel)
theorem zin_X9 : ∀ w ∈ u_ws RX9 TX9 7, w ∈ zT := zT_lay [49, 51, 53, 55, 57, 59, 61] (by decide +kernel) (by decide +kernel)
theorem zin_X11 : ∀ w ∈ u_ws RX11 TX11 15, w ∈ zT := zT_lay [143, 145, 147, 149, 151, 153, 155, 157, 159, 161, 163, 165, 167, 169, 171] (by decide +kernel) (by decide +kernel)
theorem zin_X1 : ∀ w ∈ u_ws RX1 TX1 11, w ∈ zT := zT_lay [366, 368, 348, 350, 352, 354, 356, 358, 360, 362, 364] (by decide +kernel) (by decide +kernel)
theorem zin_X0 : ∀ w ∈ u_ws RX0 TX0 15, w ∈ zT := zT_lay [281, 283, 285, 287, 289, 291, 293, 295, 297, 299, 301, 303, 305, 307, 309] (by decide +kernel) (by decide +kernel)
theorem zin_X2 : ∀ w ∈ u_ws RX2 TX2 3, w ∈ zT := zT_lay [392, 394, 396] (by decide +kernel) (by decide +kernel)
theorem zin_X6 : ∀ w ∈ u_ws RX6 TX6 5, w ∈ zT := zT_lay [413, 414, 407, 409, 411] (by decide +kernel) (by decide +kernel)
theorem zin_X3 : ∀ w ∈ u_ws RX3 TX3 5, w ∈ zT := zT_lay [483, 485, 487, 489, 491] (by decide +kernel) (by decide +kernel)
theorem zin_X14 : ∀ w ∈ u_ws RX14 TX14 6, w ∈ zT := zT_lay [1034, 1036, 1038, 1040, 1042, 1044] (by decide +kernel) (by decide +kernel)
theorem zin_X13 : ∀ w ∈ u_ws RX13 TX13 28, w ∈ zT := zT_lay [1089, 1091, 1093, 1095, 1097, 1099, 1101, 1103, 1105, 1107, 1109, 1111, 1113, 1115, 1117, 1119, 1121, 1123, 1125, 1127, 1129, 1131, 1133, 1135, 1137, 1139, 1141, 1143] (by decide +kernel) (by decide +kernel)
theorem zin_X12 : ∀ w ∈ u_ws RX12 TX12 7, w ∈ zT := zT_lay [1166, 1168, 1170, 1172, 1174, 1176, 1178] (by decide +kernel) (by decide +kernel)
theorem zin_X15 : ∀ w ∈ u_ws RX15 TX15 40, w ∈ zT := zT_lay [1222, 1224, 1226, 1228, 1230, 1232, 1234, 1236, 1238, 1240, 1242, 1244, 1246, 1248, 1250, 1252, 1254, 1256, 1258, 1260, 1262, 1264, 1266, 1268, 1270, 1272, 1274, 1276, 1278, 1280, 1282, 1284, 1286, 1288, 1290, 1292, 1294, 1296, 1298, 1300] (by decide +kernel) (by decide +kernel)
theorem zob_X9_1 : Cond.methodLink RX9 1 objectInit ∈ zT := zT_tab 37 (by decide +kernel) rfl
theorem zob_1 : Cond.instanceMethod objectInit ∈ zT := zT_tab 30 (by decide +kernel) rfl
theorem zob_2 : Cond.code objectInit ⟨#[0xb1]⟩ 1 none ∈ zT := zT_tab 31 (by decide +kernel) rfl
theorem zob_X4_3 : Cond.methodLink RX4 3 objectInit ∈ zT := zT_tab 77 (by decide +kernel) rfl
theorem zac_int : Cond.arrayClass .int ∈ zT := zT_tab 92 (by decide +kernel) rfl
theorem zp_X4_9_4 : zFldP RX4 9 4 0 true true := ⟨RX4, TX4, 4, "HouseWires$Harms", tyX4, rfl, by decide, zin_X4, zT_tab 78 (by decide +kernel) rfl, Or.inl rfl, rfl, by decide, tyX4_ok, nmX4, rfl, fun _ => rfl, (fun h => nomatch h), fun _ => rfl⟩
theorem zp_X4_15_4 : zFldP RX4 15 4 1 true true := ⟨RX4, TX4, 4, "HouseWires$Harms", tyX4, rfl, by decide, zin_X4, zT_tab 79 (by decide +kernel) rfl, Or.inl rfl, rfl, by decide, tyX4_ok, nmX4, rfl, fun _ => rfl, (fun h => nomatch h), fun _ => rfl⟩
theorem zp_X4_18_4 : zFldP RX4 18 4 2 true true := ⟨RX4, TX4, 4, "HouseWires$Harms", tyX4, rfl, by decide, zin_X4, zT_tab 80 (by decide +kernel) rfl, Or.inl rfl, rfl, by decide, tyX4_ok, nmX4, rfl, fun _ => rfl, (fun h => nomatch h), fun _ => rfl⟩
theorem zf_X4_21_4 : zFld RX4 21 4 3 false := ⟨RX4, TX4, 4, "HouseWires$Harms", rfl, by decide, zin_X4, zT_tab 81 (by decide +kernel) rfl, Or.inl rfl, rfl, by decide⟩
theorem zf_X4_9_4 : zFld RX4 9 4 0 true := ⟨RX4, TX4, 4, "HouseWires$Harms", rfl, by decide, zin_X4, zT_tab 78 (by decide +kernel) rfl, Or.inl rfl, rfl, by decide⟩
theorem zf_X4_15_4 : zFld RX4 15 4 1 true := ⟨RX4, TX4, 4, "HouseWires$Harms", rfl, by decide, zin_X4, zT_tab 79 (by decide +kernel) rfl, Or.inl rfl, rfl, by decide⟩
theorem zf_X4_18_4 : zFld RX4 18 4 2 true := ⟨RX4, TX4, 4, "HouseWires$Harms", rfl, by decide, zin_X4, zT_tab 80 (by decide +kernel) rfl, Or.inl rfl, rfl, by decide⟩
theorem zp_X4_21_4 : zFldP RX4 21 4 3 false false := ⟨RX4, TX4, 4, "HouseWires$Harms", tyX4, rfl, by decide, zin_X4, zT_tab 81 (by decide +kernel) rfl, Or.inl rfl, rfl, by decide, tyX4_ok, nmX4, rfl, (fun h => nomatch h), fun _ => rfl, (fun h => nomatch h)⟩
theorem zob_X10_3 : Cond.methodLink RX10 3 objectInit ∈ zT := zT_tab 98 (by decide +kernel) rfl
theorem zp_X10_9_9 : zFldP RX10 9 9 0 true true := ⟨RX10, TX10, 5, "HouseWires$Telegram", tyX10, rfl, by decide, zin_X10, zT_tab 99 (by decide +kernel) rfl, Or.inl rfl, rfl, by decide, tyX10_ok, nmX10, rfl, fun _ => rfl, (fun h => nomatch h), fun _ => rfl⟩
theorem zob_X7_3 : Cond.methodLink RX7 3 objectInit ∈ zT := zT_tab 195 (by decide +kernel) rfl
theorem zp_X7_9_7 : zFldP RX7 9 7 1 true true := ⟨RX7, TX7, 3, "HouseWires$Row", tyX7, rfl, by decide, zin_X7, zT_tab 201 (by decide +kernel) rfl, Or.inl rfl, rfl, by decide, tyX7_ok, nmX7, rfl, fun _ => rfl, (fun h => nomatch h), fun _ => rfl⟩
theorem zcl_X7_15 : Cond.classLink RX7 15 "HouseWires$Telegram" ∈ zT := zT_tab 196 (by decide +kernel) rfl
theorem zp_X7_17_7 : zFldP RX7 17 7 0 true true := ⟨RX7, TX7, 3, "HouseWires$Row", tyX7, rfl, by decide, zin_X7, zT_tab 199 (by decide +kernel) rfl, Or.inl rfl, rfl, by decide, tyX7_ok, nmX7, rfl, fun _ => rfl, (fun h => nomatch h), fun _ => rfl⟩
theorem zf_X7_17_7 : zFld RX7 17 7 0 true := ⟨RX7, TX7, 3, "HouseWires$Row", rfl, by decide, zin_X7, zT_tab 199 (by decide +kernel) rfl, Or.inl rfl, rfl, by decide⟩
theorem zn_X7_15 : zNew RX7 15 9 5 := ⟨RX10, TX10, tyX10, rfl, zin_X10, tyX10_ok, zT_tab 196 (by decide +kernel) rfl, zT_tab 94 (by decide +kernel) rfl, zT_tab 4 (by decide +kernel) rfl, by decide +kernel, by decide⟩
theorem zc_X7_21 : zCIN RX7 21 yX10_init cX10_init 1 0 := ⟨⟨"HouseWires", by decide +kernel⟩, zT_tab 96 (by decide +kernel) rfl, zT_tab 4 (by decide +kernel) rfl, zT_tab 97 (by decide +kernel) rfl, rfl, by decide +kernel, by decide +kernel, by decide +kernel⟩
theorem zob_X5_3 : Cond.methodLink RX5 3 objectInit ∈ zT := zT_tab 189 (by decide +kernel) rfl
theorem zp_X5_9_5 : zFldP RX5 9 5 0 false true := ⟨RX5, TX5, 6, "HouseWires$Line", tyX5, rfl, by decide, zin_X5, zT_tab 215 (by decide +kernel) rfl, Or.inl rfl, rfl, by decide, tyX5_ok, nmX5, rfl, fun _ => rfl, fun _ => rfl, (fun h => nomatch h)⟩
theorem zp_X5_15_5 : zFldP RX5 15 5 5 false false := ⟨RX5, TX5, 6, "HouseWires$Line", tyX5, rfl, by decide, zin_X5, zT_tab 224 (by decide +kernel) rfl, Or.inl rfl, rfl, by decide, tyX5_ok, nmX5, rfl, (fun h => nomatch h), fun _ => rfl, (fun h => nomatch h)⟩
theorem zn_X5_18 : zNew RX5 18 7 3 := ⟨RX7, TX7, tyX7, rfl, zin_X7, tyX7_ok, zT_tab 190 (by decide +kernel) rfl, zT_tab 191 (by decide +kernel) rfl, zT_tab 10 (by decide +kernel) rfl, by decide +kernel, by decide⟩
theorem zc_X5_20 : zCI RX5 20 yX7_init cX7_init 3 1 := ⟨zT_tab 192 (by decide +kernel) rfl, zT_tab 193 (by decide +kernel) rfl, zT_tab 10 (by decide +kernel) rfl, zT_tab 194 (by decide +kernel) rfl, rfl, by decide +kernel, by decide +kernel, by decide +kernel⟩
theorem zp_X5_23_5 : zFldP RX5 23 5 1 true true := ⟨RX5, TX5, 6, "HouseWires$Line", tyX5, rfl, by decide, zin_X5, zT_tab 217 (by decide +kernel) rfl, Or.inl rfl, rfl, by decide, tyX5_ok, nmX5, rfl, fun _ => rfl, (fun h => nomatch h), fun _ => rfl⟩
theorem zcl_X5_27 : Cond.classLink RX5 27 "HouseWires$Station" ∈ zT := zT_tab 213 (by decide +kernel) rfl
theorem zp_X5_29_5 : zFldP RX5 29 5 2 true true := ⟨RX5, TX5, 6, "HouseWires$Line", tyX5, rfl, by decide, zin_X5, zT_tab 219 (by decide +kernel) rfl, Or.inl rfl, rfl, by decide, tyX5_ok, nmX5, rfl, fun _ => rfl, (fun h => nomatch h), fun _ => rfl⟩
theorem zob_X11_1 : Cond.methodLink RX11 1 objectInit ∈ zT := zT_tab 29 (by decide +kernel) rfl
theorem zn_X11_7 : zNew RX11 7 8 7 := ⟨RX9, TX9, tyX9, rfl, zin_X9, tyX9_ok, zT_tab 32 (by decide +kernel) rfl, zT_tab 33 (by decide +kernel) rfl, zT_tab 2 (by decide +kernel) rfl, by decide +kernel, by decide⟩
theorem zc_X11_9 : zCIN RX11 9 yX9_init cX9_init 1 0 := ⟨⟨"HouseWires", by decide +kernel⟩, zT_tab 35 (by decide +kernel) rfl, zT_tab 2 (by decide +kernel) rfl, zT_tab 36 (by decide +kernel) rfl, rfl, by decide +kernel, by decide +kernel, by decide +kernel⟩
theorem zp_X11_10_10 : zFldP RX11 10 10 0 true true := ⟨RX11, TX11, 15, "HouseWires", tyX11, rfl, by decide, zin_X11, zT_tab 128 (by decide +kernel) rfl, Or.inl rfl, rfl, by decide, tyX11_ok, nmX11, rfl, fun _ => rfl, (fun h => nomatch h), fun _ => rfl⟩
theorem zcl_X11_16 : Cond.classLink RX11 16 "HouseWires$Line" ∈ zT := zT_tab 64 (by decide +kernel) rfl
theorem zp_X11_18_10 : zFldP RX11 18 10 1 true true := ⟨RX11, TX11, 15, "HouseWires", tyX11, rfl, by decide, zin_X11, zT_tab 129 (by decide +kernel) rfl, Or.inl rfl, rfl, by decide, tyX11_ok, nmX11, rfl, fun _ => rfl, (fun h => nomatch h), fun _ => rfl⟩
theorem zcl_X11_22 : Cond.classLink RX11 22 "HouseWires$Device" ∈ zT := zT_tab 66 (by decide +kernel) rfl
theorem zp_X11_24_10 : zFldP RX11 24 10 2 true true := ⟨RX11, TX11, 15, "HouseWires", tyX11, rfl, by decide, zin_X11, zT_tab 130 (by decide +kernel) rfl, Or.inl rfl, rfl, by decide, tyX11_ok, nmX11, rfl, fun _ => rfl, (fun h => nomatch h), fun _ => rfl⟩
theorem zcl_X11_28 : Cond.classLink RX11 28 "HouseWires$Filter" ∈ zT := zT_tab 68 (by decide +kernel) rfl
theorem zp_X11_30_10 : zFldP RX11 30 10 3 true true := ⟨RX11, TX11, 15, "HouseWires", tyX11, rfl, by decide, zin_X11, zT_tab 131 (by decide +kernel) rfl, Or.inl rfl, rfl, by decide, tyX11_ok, nmX11, rfl, fun _ => rfl, (fun h => nomatch h), fun _ => rfl⟩
theorem zcl_X11_34 : Cond.classLink RX11 34 "HouseWires$Port" ∈ zT := zT_tab 70 (by decide +kernel) rfl
theorem zp_X11_36_10 : zFldP RX11 36 10 4 true true := ⟨RX11, TX11, 15, "HouseWires", tyX11, rfl, by decide, zin_X11, zT_tab 132 (by decide +kernel) rfl, Or.inl rfl, rfl, by decide, tyX11_ok, nmX11, rfl, fun _ => rfl, (fun h => nomatch h), fun _ => rfl⟩
theorem zn_X11_40 : zNew RX11 40 4 4 := ⟨RX4, TX4, tyX4, rfl, zin_X4, tyX4_ok, zT_tab 72 (by decide +kernel) rfl, zT_tab 73 (by decide +kernel) rfl, zT_tab 3 (by decide +kernel) rfl, by decide +kernel, by decide⟩
theorem zc_X11_42 : zCIN RX11 42 yX4_init cX4_init 1 0 := ⟨⟨"HouseWires", by decide +kernel⟩, zT_tab 75 (by decide +kernel) rfl, zT_tab 3 (by decide +kernel) rfl, zT_tab 76 (by decide +kernel) rfl, rfl, by decide +kernel, by decide +kernel, by decide +kernel⟩
theorem zp_X11_43_10 : zFldP RX11 43 10 5 true true := ⟨RX11, TX11, 15, "HouseWires", tyX11, rfl, by decide, zin_X11, zT_tab 133 (by decide +kernel) rfl, Or.inl rfl, rfl, by decide, tyX11_ok, nmX11, rfl, fun _ => rfl, (fun h => nomatch h), fun _ => rfl⟩
theorem zp_X11_47_10 : zFldP RX11 47 10 6 true true := ⟨RX11, TX11, 15, "HouseWires", tyX11, rfl, by decide, zin_X11, zT_tab 134 (by decide +kernel) rfl, Or.inl rfl, rfl, by decide, tyX11_ok, nmX11, rfl, fun _ => rfl, (fun h => nomatch h), fun _ => rfl⟩
theorem zn_X11_51 : zNew RX11 51 9 5 := ⟨RX10, TX10, tyX10, rfl, zin_X10, tyX10_ok, zT_tab 93 (by decide +kernel) rfl, zT_tab 94 (by decide +kernel) rfl, zT_tab 4 (by decide +kernel) rfl, by decide +kernel, by decide⟩
theorem zc_X11_53 : zCIN RX11 53 yX10_init cX10_init 1 0 := ⟨⟨"HouseWires", by decide +kernel⟩, zT_tab 96 (by decide +kernel) rfl, zT_tab 4 (by decide +kernel) rfl, zT_tab 97 (by decide +kernel) rfl, rfl, by decide +kernel, by decide +kernel, by decide +kernel⟩
theorem zp_X11_54_10 : zFldP RX11 54 10 7 true true := ⟨RX11, TX11, 15, "HouseWires", tyX11, rfl, by decide, zin_X11, zT_tab 135 (by decide +kernel) rfl, Or.inl rfl, rfl, by decide, tyX11_ok, nmX11, rfl, fun _ => rfl, (fun h => nomatch h), fun _ => rfl⟩
theorem zp_X11_58_10 : zFldP RX11 58 10 8 true true := ⟨RX11, TX11, 15, "HouseWires", tyX11, rfl, by decide, zin_X11, zT_tab 136 (by decide +kernel) rfl, Or.inl rfl, rfl, by decide, tyX11_ok, nmX11, rfl, fun _ => rfl, (fun h => nomatch h), fun _ => rfl⟩
theorem zp_X11_61_10 : zFldP RX11 61 10 13 false false := ⟨RX11, TX11, 15, "HouseWires", tyX11, rfl, by decide, zin_X11, zT_tab 141 (by decide +kernel) rfl, Or.inl rfl, rfl, by decide, tyX11_ok, nmX11, rfl, (fun h => nomatch h), fun _ => rfl, (fun h => nomatch h)⟩
theorem zp_X11_65_10 : zFldP RX11 65 10 14 false false := ⟨RX11, TX11, 15, "HouseWires", tyX11, rfl, by decide, zin_X11, zT_tab 142 (by decide +kernel) rfl, Or.inl rfl, rfl, by decide, tyX11_ok, nmX11, rfl, (fun h => nomatch h), fun _ => rfl, (fun h => nomatch h)⟩
theorem zf_X11_68_10 : zFld RX11 68 10 9 false := ⟨RX11, TX11, 15, "HouseWires", rfl, by decide, zin_X11, zT_tab 137 (by decide +kernel) rfl, Or.inl rfl, rfl, by decide⟩
theorem zc_X11_71 : zCS RX11 71 yX11_isWithin cX11_isWithin 3 (some .boolean) 3 := ⟨zT_tab 178 (by decide +kernel) rfl, zT_tab 179 (by decide +kernel) rfl, zT_tab 1 (by decide +kernel) rfl, zT_tab 180 (by decide +kernel) rfl, by decide +kernel, by decide +kernel, by decide +kernel⟩
theorem zc_X11_75 : zCV RX11 75 10 yX11_lineOfNumber cX11_lineOfNumber 3 (some .int) 1 := ⟨RX11, TX11, 15, rfl, zT_tab 181 (by decide +kernel) rfl, zT_tab 183 (by decide +kernel) rfl, zT_prv 0 (by decide +kernel) rfl, zT_tab 1 (by decide +kernel) rfl, zT_tab 184 (by decide +kernel) rfl, by decide, rfl, by decide +kernel, by decide +kernel, by decide +kernel⟩
theorem zf_X11_18_10 : zFld RX11 18 10 1 true := ⟨RX11, TX11, 15, "HouseWires", rfl, by decide, zin_X11, zT_tab 129 (by decide +kernel) rfl, Or.inl rfl, rfl, by decide⟩
theorem zn_X11_16 : zNew RX11 16 5 6 := ⟨RX5, TX5, tyX5, rfl, zin_X5, tyX5_ok, zT_tab 64 (by decide +kernel) rfl, zT_tab 185 (by decide +kernel) rfl, zT_tab 9 (by decide +kernel) rfl, by decide +kernel, by decide⟩
theorem zf_X11_10_10 : zFld RX11 10 10 0 true := ⟨RX11, TX11, 15, "HouseWires", rfl, by decide, zin_X11, zT_tab 128 (by decide +kernel) rfl, Or.inl rfl, rfl, by decide⟩
theorem zc_X11_79 : zCI RX11 79 yX5_init cX5_init 4 3 := ⟨zT_tab 186 (by decide +kernel) rfl, zT_tab 187 (by decide +kernel) rfl, zT_tab 9 (by decide +kernel) rfl, zT_tab 188 (by decide +kernel) rfl, rfl, by decide +kernel, by decide +kernel, by decide +kernel⟩
theorem zp_X11_68_10 : zFldP RX11 68 10 9 false false := ⟨RX11, TX11, 15, "HouseWires", tyX11, rfl, by decide, zin_X11, zT_tab 137 (by decide +kernel) rfl, Or.inl rfl, rfl, by decide, tyX11_ok, nmX11, rfl, (fun h => nomatch h), fun _ => rfl, (fun h => nomatch h)⟩
theorem zf_X11_89_5 : zFld RX11 89 5 0 false := ⟨RX5, TX5, 6, "HouseWires$Line", rfl, by decide, zin_X5, zT_tab 216 (by decide +kernel) rfl, Or.inl rfl, rfl, by decide⟩
theorem zc_X11_82 : zCV RX11 82 10 yX11_lineAt cX11_lineAt 2 (some (.object "HouseWires$Line")) 1 := ⟨RX11, TX11, 15, rfl, zT_tab 243 (by decide +kernel) rfl, zT_tab 245 (by decide +kernel) rfl, zT_prv 1 (by decide +kernel) rfl, zT_tab 1 (by decide +kernel) rfl, zT_tab 246 (by decide +kernel) rfl, by decide, rfl, by decide +kernel, by decide +kernel, by decide +kernel⟩
theorem zf_X11_86_10 : zFld RX11 86 10 10 false := ⟨RX11, TX11, 15, "HouseWires", rfl, by decide, zin_X11, zT_tab 138 (by decide +kernel) rfl, Or.inl rfl, rfl, by decide⟩
theorem zc_X11_92 : zCV RX11 92 10 yX11_hasDeviceOf cX11_hasDeviceOf 3 (some .boolean) 1 := ⟨RX11, TX11, 15, rfl, zT_tab 247 (by decide +kernel) rfl, zT_tab 249 (by decide +kernel) rfl, zT_prv 2 (by decide +kernel) rfl, zT_tab 1 (by decide +kernel) rfl, zT_tab 250 (by decide +kernel) rfl, by decide, rfl, by decide +kernel, by decide +kernel, by decide +kernel⟩
theorem zn_X11_96 : zNew RX11 96 7 3 := ⟨RX7, TX7, tyX7, rfl, zin_X7, tyX7_ok, zT_tab 251 (by decide +kernel) rfl, zT_tab 191 (by decide +kernel) rfl, zT_tab 10 (by decide +kernel) rfl, by decide +kernel, by decide⟩
theorem zc_X11_98 : zCI RX11 98 yX7_init cX7_init 3 1 := ⟨zT_tab 252 (by decide +kernel) rfl, zT_tab 193 (by decide +kernel) rfl, zT_tab 10 (by decide +kernel) rfl, zT_tab 194 (by decide +kernel) rfl, rfl, by decide +kernel, by decide +kernel, by decide +kernel⟩
theorem zn_X11_22 : zNew RX11 22 1 11 := ⟨RX1, TX1, tyX1, rfl, zin_X1, tyX1_ok, zT_tab 66 (by decide +kernel) rfl, zT_tab 253 (by decide +kernel) rfl, zT_tab 12 (by decide +kernel) rfl, by decide +kernel, by decide⟩
theorem zn_X11_101 : zNew RX11 101 0 15 := ⟨RX0, TX0, tyX0, rfl, zin_X0, tyX0_ok, zT_tab 254 (by decide +kernel) rfl, zT_tab 255 (by decide +kernel) rfl, zT_tab 13 (by decide +kernel) rfl, by decide +kernel, by decide⟩
theorem zc_X11_103 : zCI RX11 103 yX0_init cX0_init 4 3 := ⟨zT_tab 256 (by decide +kernel) rfl, zT_tab 257 (by decide +kernel) rfl, zT_tab 13 (by decide +kernel) rfl, zT_tab 258 (by decide +kernel) rfl, rfl, by decide +kernel, by decide +kernel, by decide +kernel⟩
theorem zc_X11_106 : zCI RX11 106 yX1_init cX1_init 5 4 := ⟨zT_tab 312 (by decide +kernel) rfl, zT_tab 313 (by decide +kernel) rfl, zT_tab 12 (by decide +kernel) rfl, zT_tab 314 (by decide +kernel) rfl, rfl, by decide +kernel, by decide +kernel, by decide +kernel⟩
theorem zc_X11_109 : zCV RX11 109 5 yX5_addDevice cX5_addDevice 3 none 1 := ⟨RX5, TX5, 6, rfl, zT_tab 371 (by decide +kernel) rfl, zT_tab 372 (by decide +kernel) rfl, zT_tab 373 (by decide +kernel) rfl, zT_tab 9 (by decide +kernel) rfl, zT_tab 374 (by decide +kernel) rfl, by decide, rfl, by decide +kernel, by decide +kernel, by decide +kernel⟩
theorem zf_X11_24_10 : zFld RX11 24 10 2 true := ⟨RX11, TX11, 15, "HouseWires", rfl, by decide, zin_X11, zT_tab 130 (by decide +kernel) rfl, Or.inl rfl, rfl, by decide⟩
theorem zp_X11_86_10 : zFldP RX11 86 10 10 false false := ⟨RX11, TX11, 15, "HouseWires", tyX11, rfl, by decide, zin_X11, zT_tab 138 (by decide +kernel) rfl, Or.inl rfl, rfl, by decide, tyX11_ok, nmX11, rfl, (fun h => nomatch h), fun _ => rfl, (fun h => nomatch h)⟩
theorem zf_X11_113_10 : zFld RX11 113 10 11 false := ⟨RX11, TX11, 15, "HouseWires", rfl, by decide, zin_X11, zT_tab 139 (by decide +kernel) rfl, Or.inl rfl, rfl, by decide⟩
theorem zc_X11_116 : zCV RX11 116 5 yX5_isJoinedWith cX5_isJoinedWith 2 (some .boolean) 1 := ⟨RX5, TX5, 6, rfl, zT_tab 379 (by decide +kernel) rfl, zT_tab 380 (by decide +kernel) rfl, zT_tab 381 (by decide +kernel) rfl, zT_tab 9 (by decide +kernel) rfl, zT_tab 382 (by decide +kernel) rfl, by decide, rfl, by decide +kernel, by decide +kernel, by decide +kernel⟩
theorem zn_X11_28 : zNew RX11 28 2 3 := ⟨RX2, TX2, tyX2, rfl, zin_X2, tyX2_ok, zT_tab 68 (by decide +kernel) rfl, zT_tab 383 (by decide +kernel) rfl, zT_tab 14 (by decide +kernel) rfl, by decide +kernel, by decide⟩
theorem zc_X11_119 : zCIN RX11 119 yX2_init cX2_init 1 0 := ⟨⟨"HouseWires", by decide +kernel⟩, zT_tab 385 (by decide +kernel) rfl, zT_tab 14 (by decide +kernel) rfl, zT_tab 386 (by decide +kernel) rfl, rfl, by decide +kernel, by decide +kernel, by decide +kernel⟩
theorem zn_X11_34 : zNew RX11 34 6 5 := ⟨RX6, TX6, tyX6, rfl, zin_X6, tyX6_ok, zT_tab 70 (by decide +kernel) rfl, zT_tab 399 (by decide +kernel) rfl, zT_tab 15 (by decide +kernel) rfl, by decide +kernel, by decide⟩
theorem zf_X11_120_5 : zFld RX11 120 5 5 false := ⟨RX5, TX5, 6, "HouseWires$Line", rfl, by decide, zin_X5, zT_tab 225 (by decide +kernel) rfl, Or.inl rfl, rfl, by decide⟩
theorem zc_X11_123 : zCI RX11 123 yX6_init cX6_init 5 4 := ⟨zT_tab 400 (by decide +kernel) rfl, zT_tab 401 (by decide +kernel) rfl, zT_tab 15 (by decide +kernel) rfl, zT_tab 402 (by decide +kernel) rfl, rfl, by decide +kernel, by decide +kernel, by decide +kernel⟩
theorem zc_X11_126 : zCV RX11 126 10 yX11_joinLines cX11_joinLines 7 none 4 := ⟨RX11, TX11, 15, rfl, zT_tab 416 (by decide +kernel) rfl, zT_tab 418 (by decide +kernel) rfl, zT_prv 3 (by decide +kernel) rfl, zT_tab 1 (by decide +kernel) rfl, zT_tab 419 (by decide +kernel) rfl, by decide, rfl, by decide +kernel, by decide +kernel, by decide +kernel⟩
theorem zc_X11_130 : zCV RX11 130 5 yX5_addPort cX5_addPort 2 none 1 := ⟨RX5, TX5, 6, rfl, zT_tab 428 (by decide +kernel) rfl, zT_tab 429 (by decide +kernel) rfl, zT_tab 430 (by decide +kernel) rfl, zT_tab 9 (by decide +kernel) rfl, zT_tab 431 (by decide +kernel) rfl, by decide, rfl, by decide +kernel, by decide +kernel, by decide +kernel⟩
theorem zf_X11_30_10 : zFld RX11 30 10 3 true := ⟨RX11, TX11, 15, "HouseWires", rfl, by decide, zin_X11, zT_tab 131 (by decide +kernel) rfl, Or.inl rfl, rfl, by decide⟩
theorem zf_X11_36_10 : zFld RX11 36 10 4 true := ⟨RX11, TX11, 15, "HouseWires", rfl, by decide, zin_X11, zT_tab 132 (by decide +kernel) rfl, Or.inl rfl, rfl, by decide⟩
theorem zp_X11_113_10 : zFldP RX11 113 10 11 false false := ⟨RX11, TX11, 15, "HouseWires", tyX11, rfl, by decide, zin_X11, zT_tab 139 (by decide +kernel) rfl, Or.inl rfl, rfl, by decide, tyX11_ok, nmX11, rfl, (fun h => nomatch h), fun _ => rfl, (fun h => nomatch h)⟩
theorem zc_X11_134 : zCV RX11 134 10 yX11_filterAt cX11_filterAt 2 (some (.object "HouseWires$Filter")) 1 := ⟨RX11, TX11, 15, rfl, zT_tab 436 (by decide +kernel) rfl, zT_tab 438 (by decide +kernel) rfl, zT_prv 5 (by decide +kernel) rfl, zT_tab 1 (by decide +kernel) rfl, zT_tab 439 (by decide +kernel) rfl, by decide, rfl, by decide +kernel, by decide +kernel, by decide +kernel⟩
theorem zp_X11_138_2 : zFldP RX11 138 2 2 false false := ⟨RX2, TX2, 3, "HouseWires$Filter", tyX2, rfl, by decide, zin_X2, zT_tab 391 (by decide +kernel) rfl, Or.inl rfl, rfl, by decide, tyX2_ok, nmX2, rfl, (fun h => nomatch h), fun _ => rfl, (fun h => nomatch h)⟩
theorem zk_X11_141 : Cond.constant RX11 141 65535 ∈ zT := zT_tab 444 (by decide +kernel) rfl
theorem zc_X11_142 : zCV RX11 142 2 yX2_change cX2_change 4 (some .boolean) 2 := ⟨RX2, TX2, 3, rfl, zT_tab 445 (by decide +kernel) rfl, zT_tab 446 (by decide +kernel) rfl, zT_tab 447 (by decide +kernel) rfl, zT_tab 14 (by decide +kernel) rfl, zT_tab 448 (by decide +kernel) rfl, by decide, rfl, by decide +kernel, by decide +kernel, by decide +kernel⟩
theorem zc_X11_146 : zCV RX11 146 10 yX11_deviceAt cX11_deviceAt 2 (some (.object "HouseWires$Device")) 1 := ⟨RX11, TX11, 15, rfl, zT_tab 457 (by decide +kernel) rfl, zT_tab 459 (by decide +kernel) rfl, zT_prv 7 (by decide +kernel) rfl, zT_tab 1 (by decide +kernel) rfl, zT_tab 460 (by decide +kernel) rfl, by decide, rfl, by decide +kernel, by decide +kernel, by decide +kernel⟩
theorem zc_X11_157 : zCV RX11 157 10 yX11_objectAt cX11_objectAt 4 (some (.object "HouseWires$GroupObject")) 2 := ⟨RX11, TX11, 15, rfl, zT_tab 498 (by decide +kernel) rfl, zT_tab 500 (by decide +kernel) rfl, zT_prv 8 (by decide +kernel) rfl, zT_tab 1 (by decide +kernel) rfl, zT_tab 501 (by decide +kernel) rfl, by decide, rfl, by decide +kernel, by decide +kernel, by decide +kernel⟩
theorem zp_X11_161_3 : zFldP RX11 161 3 2 false false := ⟨RX3, TX3, 5, "HouseWires$GroupObject", tyX3, rfl, by decide, zin_X3, zT_tab 477 (by decide +kernel) rfl, Or.inl rfl, rfl, by decide, tyX3_ok, nmX3, rfl, (fun h => nomatch h), fun _ => rfl, (fun h => nomatch h)⟩
theorem zc_X11_327 : zCV RX11 327 1 yX1_findObject cX1_findObject 2 (some (.object "HouseWires$GroupObject")) 1 := ⟨RX1, TX1, 11, rfl, zT_tab 502 (by decide +kernel) rfl, zT_tab 503 (by decide +kernel) rfl, zT_tab 504 (by decide +kernel) rfl, zT_tab 12 (by decide +kernel) rfl, zT_tab 505 (by decide +kernel) rfl, by decide, rfl, by decide +kernel, by decide +kernel, by decide +kernel⟩
theorem zc_X11_166 : zCV RX11 166 1 yX1_addLink cX1_addLink 4 (some .boolean) 2 := ⟨RX1, TX1, 11, rfl, zT_tab 511 (by decide +kernel) rfl, zT_tab 512 (by decide +kernel) rfl, zT_tab 513 (by decide +kernel) rfl, zT_tab 12 (by decide +kernel) rfl, zT_tab 514 (by decide +kernel) rfl, by decide, rfl, by decide +kernel, by decide +kernel, by decide +kernel⟩
theorem zc_X11_170 : zCV RX11 170 1 yX1_changeObject cX1_changeObject 6 (some .int) 2 := ⟨RX1, TX1, 11, rfl, zT_tab 520 (by decide +kernel) rfl, zT_tab 521 (by decide +kernel) rfl, zT_tab 522 (by decide +kernel) rfl, zT_tab 12 (by decide +kernel) rfl, zT_tab 523 (by decide +kernel) rfl, by decide, rfl, by decide +kernel, by decide +kernel, by decide +kernel⟩
theorem zc_X11_174 : zCV RX11 174 1 yX1_askGroup cX1_askGroup 4 (some .int) 1 := ⟨RX1, TX1, 11, rfl, zT_tab 568 (by decide +kernel) rfl, zT_tab 569 (by decide +kernel) rfl, zT_tab 570 (by decide +kernel) rfl, zT_tab 12 (by decide +kernel) rfl, zT_tab 571 (by decide +kernel) rfl, by decide, rfl, by decide +kernel, by decide +kernel, by decide +kernel⟩
theorem zk_X11_177 : Cond.constantLong RX11 177 (-1) ∈ zT := zT_tab 576 (by decide +kernel) rfl
theorem zf_X11_179_3 : zFld RX11 179 3 3 false := ⟨RX3, TX3, 5, "HouseWires$GroupObject", rfl, by decide, zin_X3, zT_tab 480 (by decide +kernel) rfl, Or.inl rfl, rfl, by decide⟩
theorem zk_X11_182 : Cond.constantLong RX11 182 4294967295 ∈ zT := zT_tab 577 (by decide +kernel) rfl
theorem zf_X11_184_3 : zFld RX11 184 3 4 false := ⟨RX3, TX3, 5, "HouseWires$GroupObject", rfl, by decide, zin_X3, zT_tab 482 (by decide +kernel) rfl, Or.inl rfl, rfl, by decide⟩
theorem zk_X11_192 : Cond.constantLong RX11 192 (-9223372036854775808) ∈ zT := zT_tab 586 (by decide +kernel) rfl
theorem zf_X11_187_3 : zFld RX11 187 3 0 false := ⟨RX3, TX3, 5, "HouseWires$GroupObject", rfl, by decide, zin_X3, zT_tab 473 (by decide +kernel) rfl, Or.inl rfl, rfl, by decide⟩
theorem zc_X11_194 : zCS RX11 194 yX11_withPoint cX11_withPoint 3 (some .int) 1 := ⟨zT_tab 591 (by decide +kernel) rfl, zT_tab 592 (by decide +kernel) rfl, zT_tab 1 (by decide +kernel) rfl, zT_tab 593 (by decide +kernel) rfl, by decide +kernel, by decide +kernel, by decide +kernel⟩
theorem zc_X11_197 : zCV RX11 197 10 yX11_set cX11_set 5 (some .int) 3 := ⟨RX11, TX11, 15, rfl, zT_tab 595 (by decide +kernel) rfl, zT_tab 517 (by decide +kernel) rfl, zT_tab 518 (by decide +kernel) rfl, zT_tab 1 (by decide +kernel) rfl, zT_tab 519 (by decide +kernel) rfl, by decide, rfl, by decide +kernel, by decide +kernel, by decide +kernel⟩
theorem zf_X11_200_1 : zFld RX11 200 1 3 true := ⟨RX1, TX1, 11, "HouseWires$Device", rfl, by decide, zin_X1, zT_tab 326 (by decide +kernel) rfl, Or.inl rfl, rfl, by decide⟩
theorem zc_X11_204 : zCV RX11 204 0 yX0_join cX0_join 2 (some .boolean) 1 := ⟨RX0, TX0, 15, rfl, zT_tab 600 (by decide +kernel) rfl, zT_tab 601 (by decide +kernel) rfl, zT_tab 602 (by decide +kernel) rfl, zT_tab 13 (by decide +kernel) rfl, zT_tab 603 (by decide +kernel) rfl, by decide, rfl, by decide +kernel, by decide +kernel, by decide +kernel⟩
theorem zf_X11_207_0 : zFld RX11 207 0 7 false := ⟨RX0, TX0, 15, "HouseWires$Connection", rfl, by decide, zin_X0, zT_tab 273 (by decide +kernel) rfl, Or.inl rfl, rfl, by decide⟩
theorem zc_X11_210 : zCV RX11 210 0 yX0_close cX0_close 1 none 0 := ⟨RX0, TX0, 15, rfl, zT_tab 617 (by decide +kernel) rfl, zT_tab 618 (by decide +kernel) rfl, zT_tab 619 (by decide +kernel) rfl, zT_tab 13 (by decide +kernel) rfl, zT_tab 620 (by decide +kernel) rfl, by decide, rfl, by decide +kernel, by decide +kernel, by decide +kernel⟩
theorem zc_X11_213 : zCV RX11 213 0 yX0_orderRead cX0_orderRead 3 (some .boolean) 2 := ⟨RX0, TX0, 15, rfl, zT_tab 629 (by decide +kernel) rfl, zT_tab 630 (by decide +kernel) rfl, zT_tab 631 (by decide +kernel) rfl, zT_tab 13 (by decide +kernel) rfl, zT_tab 632 (by decide +kernel) rfl, by decide, rfl, by decide +kernel, by decide +kernel, by decide +kernel⟩
theorem zc_X11_216 : zCV RX11 216 0 yX0_orderWrite cX0_orderWrite 5 (some .boolean) 3 := ⟨RX0, TX0, 15, rfl, zT_tab 645 (by decide +kernel) rfl, zT_tab 646 (by decide +kernel) rfl, zT_tab 647 (by decide +kernel) rfl, zT_tab 13 (by decide +kernel) rfl, zT_tab 648 (by decide +kernel) rfl, by decide, rfl, by decide +kernel, by decide +kernel, by decide +kernel⟩
theorem zf_X11_219_0 : zFld RX11 219 0 4 true := ⟨RX0, TX0, 15, "HouseWires$Connection", rfl, by decide, zin_X0, zT_tab 267 (by decide +kernel) rfl, Or.inl rfl, rfl, by decide⟩
theorem zf_X11_222_0 : zFld RX11 222 0 6 false := ⟨RX0, TX0, 15, "HouseWires$Connection", rfl, by decide, zin_X0, zT_tab 271 (by decide +kernel) rfl, Or.inl rfl, rfl, by decide⟩
theorem zf_X11_225_0 : zFld RX11 225 0 5 true := ⟨RX0, TX0, 15, "HouseWires$Connection", rfl, by decide, zin_X0, zT_tab 269 (by decide +kernel) rfl, Or.inl rfl, rfl, by decide⟩
theorem zc_X11_247 : zCV RX11 247 0 yX0_tell cX0_tell 3 (some .int) 1 := ⟨RX0, TX0, 15, rfl, zT_tab 665 (by decide +kernel) rfl, zT_tab 666 (by decide +kernel) rfl, zT_tab 667 (by decide +kernel) rfl, zT_tab 13 (by decide +kernel) rfl, zT_tab 668 (by decide +kernel) rfl, by decide, rfl, by decide +kernel, by decide +kernel, by decide +kernel⟩
theorem zf_X11_228_1 : zFld RX11 228 1 0 true := ⟨RX1, TX1, 11, "HouseWires$Device", rfl, by decide, zin_X1, zT_tab 341 (by decide +kernel) rfl, Or.inr (zT_tab 340 (by decide +kernel) rfl), rfl, by decide⟩
theorem zf_X11_232_7 : zFld RX11 232 7 2 false := ⟨RX7, TX7, 3, "HouseWires$Row", rfl, by decide, zin_X7, zT_tab 205 (by decide +kernel) rfl, Or.inl rfl, rfl, by decide⟩
theorem zf_X11_235_1 : zFld RX11 235 1 2 false := ⟨RX1, TX1, 11, "HouseWires$Device", rfl, by decide, zin_X1, zT_tab 324 (by decide +kernel) rfl, Or.inl rfl, rfl, by decide⟩
theorem zf_X11_238_1 : zFld RX11 238 1 10 false := ⟨RX1, TX1, 11, "HouseWires$Device", rfl, by decide, zin_X1, zT_tab 336 (by decide +kernel) rfl, Or.inl rfl, rfl, by decide⟩
theorem zf_X11_241_1 : zFld RX11 241 1 8 false := ⟨RX1, TX1, 11, "HouseWires$Device", rfl, by decide, zin_X1, zT_tab 332 (by decide +kernel) rfl, Or.inl rfl, rfl, by decide⟩
theorem zf_X11_244_1 : zFld RX11 244 1 9 false := ⟨RX1, TX1, 11, "HouseWires$Device", rfl, by decide, zin_X1, zT_tab 334 (by decide +kernel) rfl, Or.inl rfl, rfl, by decide⟩
theorem zp_X11_238_1 : zFldP RX11 238 1 10 false false := ⟨RX1, TX1, 11, "HouseWires$Device", tyX1, rfl, by decide, zin_X1, zT_tab 336 (by decide +kernel) rfl, Or.inl rfl, rfl, by decide, tyX1_ok, nmX1, rfl, (fun h => nomatch h), fun _ => rfl, (fun h => nomatch h)⟩
theorem zf_X11_250_10 : zFld RX11 250 10 12 false := ⟨RX11, TX11, 15, "HouseWires", rfl, by decide, zin_X11, zT_tab 140 (by decide +kernel) rfl, Or.inl rfl, rfl, by decide⟩
theorem zc_X11_253 : zCV RX11 253 10 yX11_feedNumber cX11_feedNumber 3 none 1 := ⟨RX11, TX11, 15, rfl, zT_tab 677 (by decide +kernel) rfl, zT_tab 679 (by decide +kernel) rfl, zT_prv 15 (by decide +kernel) rfl, zT_tab 1 (by decide +kernel) rfl, zT_tab 680 (by decide +kernel) rfl, by decide, rfl, by decide +kernel, by decide +kernel, by decide +kernel⟩
theorem zf_X11_47_10 : zFld RX11 47 10 6 true := ⟨RX11, TX11, 15, "HouseWires", rfl, by decide, zin_X11, zT_tab 134 (by decide +kernel) rfl, Or.inl rfl, rfl, by decide⟩
theorem zp_X11_250_10 : zFldP RX11 250 10 12 false false := ⟨RX11, TX11, 15, "HouseWires", tyX11, rfl, by decide, zin_X11, zT_tab 140 (by decide +kernel) rfl, Or.inl rfl, rfl, by decide, tyX11_ok, nmX11, rfl, (fun h => nomatch h), fun _ => rfl, (fun h => nomatch h)⟩
theorem zf_X11_257_5 : zFld RX11 257 5 1 true := ⟨RX5, TX5, 6, "HouseWires$Line", rfl, by decide, zin_X5, zT_tab 218 (by decide +kernel) rfl, Or.inl rfl, rfl, by decide⟩
theorem zc_X11_260 : zCV RX11 260 7 yX7_isFull cX7_isFull 1 (some .boolean) 0 := ⟨RX7, TX7, 3, rfl, zT_tab 689 (by decide +kernel) rfl, zT_tab 533 (by decide +kernel) rfl, zT_tab 534 (by decide +kernel) rfl, zT_tab 10 (by decide +kernel) rfl, zT_tab 535 (by decide +kernel) rfl, by decide, rfl, by decide +kernel, by decide +kernel, by decide +kernel⟩
theorem zf_X11_58_10 : zFld RX11 58 10 8 true := ⟨RX11, TX11, 15, "HouseWires", rfl, by decide, zin_X11, zT_tab 136 (by decide +kernel) rfl, Or.inl rfl, rfl, by decide⟩
theorem zf_X11_264_9 : zFld RX11 264 9 0 true := ⟨RX10, TX10, 5, "HouseWires$Telegram", rfl, by decide, zin_X10, zT_tab 105 (by decide +kernel) rfl, Or.inl rfl, rfl, by decide⟩
theorem zf_X11_43_10 : zFld RX11 43 10 5 true := ⟨RX11, TX11, 15, "HouseWires", rfl, by decide, zin_X11, zT_tab 133 (by decide +kernel) rfl, Or.inl rfl, rfl, by decide⟩
theorem zf_X11_280_8 : zFld RX11 280 8 1 false := ⟨RX9, TX9, 7, "HouseWires$Tally", rfl, by decide, zin_X9, zT_tab 40 (by decide +kernel) rfl, Or.inl rfl, rfl, by decide⟩
theorem zc_X11_283 : zCV RX11 283 4 yX4_add cX4_add 5 (some .boolean) 3 := ⟨RX4, TX4, 4, rfl, zT_tab 698 (by decide +kernel) rfl, zT_tab 699 (by decide +kernel) rfl, zT_tab 700 (by decide +kernel) rfl, zT_tab 3 (by decide +kernel) rfl, zT_tab 701 (by decide +kernel) rfl, by decide, rfl, by decide +kernel, by decide +kernel, by decide +kernel⟩
theorem zf_X11_292_8 : zFld RX11 292 8 0 false := ⟨RX9, TX9, 7, "HouseWires$Tally", rfl, by decide, zin_X9, zT_tab 39 (by decide +kernel) rfl, Or.inl rfl, rfl, by decide⟩
theorem zp_X11_292_8 : zFldP RX11 292 8 0 false false := ⟨RX9, TX9, 7, "HouseWires$Tally", tyX9, rfl, by decide, zin_X9, zT_tab 39 (by decide +kernel) rfl, Or.inl rfl, rfl, by decide, tyX9_ok, nmX9, rfl, (fun h => nomatch h), fun _ => rfl, (fun h => nomatch h)⟩
theorem zf_X11_295_8 : zFld RX11 295 8 6 false := ⟨RX9, TX9, 7, "HouseWires$Tally", rfl, by decide, zin_X9, zT_tab 48 (by decide +kernel) rfl, Or.inl rfl, rfl, by decide⟩
theorem zc_X11_298 : zCV RX11 298 5 yX5_chooseSender cX5_chooseSender 6 (some (.object "HouseWires$Row")) 0 := ⟨RX5, TX5, 6, rfl, zT_tab 781 (by decide +kernel) rfl, zT_tab 782 (by decide +kernel) rfl, zT_tab 783 (by decide +kernel) rfl, zT_tab 9 (by decide +kernel) rfl, zT_tab 784 (by decide +kernel) rfl, by decide, rfl, by decide +kernel, by decide +kernel, by decide +kernel⟩
theorem zc_X11_302 : zCV RX11 302 10 yX11_transmit cX11_transmit 11 none 2 := ⟨RX11, TX11, 15, rfl, zT_tab 804 (by decide +kernel) rfl, zT_tab 806 (by decide +kernel) rfl, zT_prv 17 (by decide +kernel) rfl, zT_tab 1 (by decide +kernel) rfl, zT_tab 807 (by decide +kernel) rfl, by decide, rfl, by decide +kernel, by decide +kernel, by decide +kernel⟩
theorem zc_X11_306 : zCV RX11 306 0 yX0_tick cX0_tick 1 none 0 := ⟨RX0, TX0, 15, rfl, zT_tab 969 (by decide +kernel) rfl, zT_tab 970 (by decide +kernel) rfl, zT_tab 971 (by decide +kernel) rfl, zT_tab 13 (by decide +kernel) rfl, zT_tab 972 (by decide +kernel) rfl, by decide, rfl, by decide +kernel, by decide +kernel, by decide +kernel⟩
theorem zf_X11_54_10 : zFld RX11 54 10 7 true := ⟨RX11, TX11, 15, "HouseWires", rfl, by decide, zin_X11, zT_tab 135 (by decide +kernel) rfl, Or.inl rfl, rfl, by decide⟩
theorem zf_X11_273_9 : zFld RX11 273 9 1 false := ⟨RX10, TX10, 5, "HouseWires$Telegram", rfl, by decide, zin_X10, zT_tab 109 (by decide +kernel) rfl, Or.inl rfl, rfl, by decide⟩
theorem zf_X11_314_8 : zFld RX11 314 8 2 false := ⟨RX9, TX9, 7, "HouseWires$Tally", rfl, by decide, zin_X9, zT_tab 41 (by decide +kernel) rfl, Or.inl rfl, rfl, by decide⟩
theorem zf_X11_317_8 : zFld RX11 317 8 3 false := ⟨RX9, TX9, 7, "HouseWires$Tally", rfl, by decide, zin_X9, zT_tab 42 (by decide +kernel) rfl, Or.inl rfl, rfl, by decide⟩
theorem zf_X11_320_8 : zFld RX11 320 8 4 false := ⟨RX9, TX9, 7, "HouseWires$Tally", rfl, by decide, zin_X9, zT_tab 44 (by decide +kernel) rfl, Or.inl rfl, rfl, by decide⟩
theorem zf_X11_323_8 : zFld RX11 323 8 5 false := ⟨RX9, TX9, 7, "HouseWires$Tally", rfl, by decide, zin_X9, zT_tab 46 (by decide +kernel) rfl, Or.inl rfl, rfl, by decide⟩
theorem zf_X11_65_10 : zFld RX11 65 10 14 false := ⟨RX11, TX11, 15, "HouseWires", rfl, by decide, zin_X11, zT_tab 142 (by decide +kernel) rfl, Or.inl rfl, rfl, by decide⟩
theorem zf_X11_61_10 : zFld RX11 61 10 13 false := ⟨RX11, TX11, 15, "HouseWires", rfl, by decide, zin_X11, zT_tab 141 (by decide +kernel) rfl, Or.inl rfl, rfl, by decide⟩
theorem zf_X11_326_4 : zFld RX11 326 4 3 false := ⟨RX4, TX4, 4, "HouseWires$Harms", rfl, by decide, zin_X4, zT_tab 82 (by decide +kernel) rfl, Or.inl rfl, rfl, by decide⟩
theorem zob_X14_3 : Cond.methodLink RX14 3 objectInit ∈ zT := zT_tab 1019 (by decide +kernel) rfl
theorem zcl_X14_9 : Cond.classLink RX14 9 "[[I" ∈ zT := zT_tab 1020 (by decide +kernel) rfl
theorem zp_X14_11_13 : zFldP RX14 11 13 0 true true := ⟨RX14, TX14, 6, "HouseWiresModel$Out", tyX14, rfl, by decide, zin_X14, zT_tab 1022 (by decide +kernel) rfl, Or.inl rfl, rfl, by decide, tyX14_ok, nmX14, rfl, fun _ => rfl, (fun h => nomatch h), fun _ => rfl⟩
theorem zp_X14_16_13 : zFldP RX14 16 13 1 true true := ⟨RX14, TX14, 6, "HouseWiresModel$Out", tyX14, rfl, by decide, zin_X14, zT_tab 1024 (by decide +kernel) rfl, Or.inl rfl, rfl, by decide, tyX14_ok, nmX14, rfl, fun _ => rfl, (fun h => nomatch h), fun _ => rfl⟩
theorem zp_X14_20_13 : zFldP RX14 20 13 2 true true := ⟨RX14, TX14, 6, "HouseWiresModel$Out", tyX14, rfl, by decide, zin_X14, zT_tab 1026 (by decide +kernel) rfl, Or.inl rfl, rfl, by decide, tyX14_ok, nmX14, rfl, fun _ => rfl, (fun h => nomatch h), fun _ => rfl⟩
theorem zp_X14_23_13 : zFldP RX14 23 13 3 true true := ⟨RX14, TX14, 6, "HouseWiresModel$Out", tyX14, rfl, by decide, zin_X14, zT_tab 1028 (by decide +kernel) rfl, Or.inl rfl, rfl, by decide, tyX14_ok, nmX14, rfl, fun _ => rfl, (fun h => nomatch h), fun _ => rfl⟩
theorem zp_X14_26_13 : zFldP RX14 26 13 4 true true := ⟨RX14, TX14, 6, "HouseWiresModel$Out", tyX14, rfl, by decide, zin_X14, zT_tab 1030 (by decide +kernel) rfl, Or.inl rfl, rfl, by decide, tyX14_ok, nmX14, rfl, fun _ => rfl, (fun h => nomatch h), fun _ => rfl⟩
theorem zob_X13_3 : Cond.methodLink RX13 3 objectInit ∈ zT := zT_tab 1013 (by decide +kernel) rfl
theorem zn_X13_9 : zNew RX13 9 13 6 := ⟨RX14, TX14, tyX14, rfl, zin_X14, tyX14_ok, zT_tab 1014 (by decide +kernel) rfl, zT_tab 1015 (by decide +kernel) rfl, zT_tab 7 (by decide +kernel) rfl, by decide +kernel, by decide⟩
theorem zc_X13_11 : zCIN RX13 11 yX14_init cX14_init 1 0 := ⟨⟨"HouseWiresModel", by decide +kernel⟩, zT_tab 1017 (by decide +kernel) rfl, zT_tab 7 (by decide +kernel) rfl, zT_tab 1018 (by decide +kernel) rfl, rfl, by decide +kernel, by decide +kernel, by decide +kernel⟩
theorem zp_X13_12_12 : zFldP RX13 12 12 2 true true := ⟨RX13, TX13, 28, "HouseWiresModel$Device", tyX13, rfl, by decide, zin_X13, zT_tab 1050 (by decide +kernel) rfl, Or.inl rfl, rfl, by decide, tyX13_ok, nmX13, rfl, fun _ => rfl, (fun h => nomatch h), fun _ => rfl⟩
theorem zp_X13_18_12 : zFldP RX13 18 12 4 true true := ⟨RX13, TX13, 28, "HouseWiresModel$Device", tyX13, rfl, by decide, zin_X13, zT_tab 1053 (by decide +kernel) rfl, Or.inl rfl, rfl, by decide, tyX13_ok, nmX13, rfl, fun _ => rfl, (fun h => nomatch h), fun _ => rfl⟩
theorem zp_X13_22_12 : zFldP RX13 22 12 7 true true := ⟨RX13, TX13, 28, "HouseWiresModel$Device", tyX13, rfl, by decide, zin_X13, zT_tab 1057 (by decide +kernel) rfl, Or.inl rfl, rfl, by decide, tyX13_ok, nmX13, rfl, fun _ => rfl, (fun h => nomatch h), fun _ => rfl⟩
theorem zp_X13_25_12 : zFldP RX13 25 12 8 true true := ⟨RX13, TX13, 28, "HouseWiresModel$Device", tyX13, rfl, by decide, zin_X13, zT_tab 1059 (by decide +kernel) rfl, Or.inl rfl, rfl, by decide, tyX13_ok, nmX13, rfl, fun _ => rfl, (fun h => nomatch h), fun _ => rfl⟩
theorem zp_X13_28_12 : zFldP RX13 28 12 9 true true := ⟨RX13, TX13, 28, "HouseWiresModel$Device", tyX13, rfl, by decide, zin_X13, zT_tab 1061 (by decide +kernel) rfl, Or.inl rfl, rfl, by decide, tyX13_ok, nmX13, rfl, fun _ => rfl, (fun h => nomatch h), fun _ => rfl⟩
theorem zp_X13_31_12 : zFldP RX13 31 12 10 true true := ⟨RX13, TX13, 28, "HouseWiresModel$Device", tyX13, rfl, by decide, zin_X13, zT_tab 1063 (by decide +kernel) rfl, Or.inl rfl, rfl, by decide, tyX13_ok, nmX13, rfl, fun _ => rfl, (fun h => nomatch h), fun _ => rfl⟩
theorem zp_X13_34_12 : zFldP RX13 34 12 11 true true := ⟨RX13, TX13, 28, "HouseWiresModel$Device", tyX13, rfl, by decide, zin_X13, zT_tab 1065 (by decide +kernel) rfl, Or.inl rfl, rfl, by decide, tyX13_ok, nmX13, rfl, fun _ => rfl, (fun h => nomatch h), fun _ => rfl⟩
theorem zp_X13_37_12 : zFldP RX13 37 12 13 true true := ⟨RX13, TX13, 28, "HouseWiresModel$Device", tyX13, rfl, by decide, zin_X13, zT_tab 1068 (by decide +kernel) rfl, Or.inl rfl, rfl, by decide, tyX13_ok, nmX13, rfl, fun _ => rfl, (fun h => nomatch h), fun _ => rfl⟩
theorem zp_X13_40_12 : zFldP RX13 40 12 14 true true := ⟨RX13, TX13, 28, "HouseWiresModel$Device", tyX13, rfl, by decide, zin_X13, zT_tab 1070 (by decide +kernel) rfl, Or.inl rfl, rfl, by decide, tyX13_ok, nmX13, rfl, fun _ => rfl, (fun h => nomatch h), fun _ => rfl⟩
theorem zp_X13_43_12 : zFldP RX13 43 12 15 true true := ⟨RX13, TX13, 28, "HouseWiresModel$Device", tyX13, rfl, by decide, zin_X13, zT_tab 1072 (by decide +kernel) rfl, Or.inl rfl, rfl, by decide, tyX13_ok, nmX13, rfl, fun _ => rfl, (fun h => nomatch h), fun _ => rfl⟩
theorem zp_X13_46_12 : zFldP RX13 46 12 16 true true := ⟨RX13, TX13, 28, "HouseWiresModel$Device", tyX13, rfl, by decide, zin_X13, zT_tab 1074 (by decide +kernel) rfl, Or.inl rfl, rfl, by decide, tyX13_ok, nmX13, rfl, fun _ => rfl, (fun h => nomatch h), fun _ => rfl⟩
theorem zp_X13_49_12 : zFldP RX13 49 12 25 false false := ⟨RX13, TX13, 28, "HouseWiresModel$Device", tyX13, rfl, by decide, zin_X13, zT_tab 1084 (by decide +kernel) rfl, Or.inl rfl, rfl, by decide, tyX13_ok, nmX13, rfl, (fun h => nomatch h), fun _ => rfl, (fun h => nomatch h)⟩
theorem zp_X13_53_12 : zFldP RX13 53 12 26 true true := ⟨RX13, TX13, 28, "HouseWiresModel$Device", tyX13, rfl, by decide, zin_X13, zT_tab 1086 (by decide +kernel) rfl, Or.inl rfl, rfl, by decide, tyX13_ok, nmX13, rfl, fun _ => rfl, (fun h => nomatch h), fun _ => rfl⟩
theorem zob_X12_3 : Cond.methodLink RX12 3 objectInit ∈ zT := zT_tab 1150 (by decide +kernel) rfl
theorem zp_X12_9_11 : zFldP RX12 9 11 0 true true := ⟨RX12, TX12, 7, "HouseWiresModel$Coupler", tyX12, rfl, by decide, zin_X12, zT_tab 1154 (by decide +kernel) rfl, Or.inl rfl, rfl, by decide, tyX12_ok, nmX12, rfl, fun _ => rfl, (fun h => nomatch h), fun _ => rfl⟩
theorem zp_X12_15_11 : zFldP RX12 15 11 2 true true := ⟨RX12, TX12, 7, "HouseWiresModel$Coupler", tyX12, rfl, by decide, zin_X12, zT_tab 1157 (by decide +kernel) rfl, Or.inl rfl, rfl, by decide, tyX12_ok, nmX12, rfl, fun _ => rfl, (fun h => nomatch h), fun _ => rfl⟩
theorem zcl_X12_18 : Cond.classLink RX12 18 "HouseWiresModel$Out" ∈ zT := zT_tab 1151 (by decide +kernel) rfl
theorem zn_X12_18 : zNew RX12 18 13 6 := ⟨RX14, TX14, tyX14, rfl, zin_X14, tyX14_ok, zT_tab 1151 (by decide +kernel) rfl, zT_tab 1015 (by decide +kernel) rfl, zT_tab 7 (by decide +kernel) rfl, by decide +kernel, by decide⟩
theorem zc_X12_20 : zCIN RX12 20 yX14_init cX14_init 1 0 := ⟨⟨"HouseWiresModel", by decide +kernel⟩, zT_tab 1017 (by decide +kernel) rfl, zT_tab 7 (by decide +kernel) rfl, zT_tab 1018 (by decide +kernel) rfl, rfl, by decide +kernel, by decide +kernel, by decide +kernel⟩
theorem zp_X12_21_11 : zFldP RX12 21 11 4 true true := ⟨RX12, TX12, 7, "HouseWiresModel$Coupler", tyX12, rfl, by decide, zin_X12, zT_tab 1160 (by decide +kernel) rfl, Or.inl rfl, rfl, by decide, tyX12_ok, nmX12, rfl, fun _ => rfl, (fun h => nomatch h), fun _ => rfl⟩
theorem zcl_X12_25 : Cond.classLink RX12 25 "[[I" ∈ zT := zT_tab 1153 (by decide +kernel) rfl
theorem zp_X12_27_11 : zFldP RX12 27 11 5 true true := ⟨RX12, TX12, 7, "HouseWiresModel$Coupler", tyX12, rfl, by decide, zin_X12, zT_tab 1162 (by decide +kernel) rfl, Or.inl rfl, rfl, by decide, tyX12_ok, nmX12, rfl, fun _ => rfl, (fun h => nomatch h), fun _ => rfl⟩
theorem zp_X12_30_11 : zFldP RX12 30 11 6 true true := ⟨RX12, TX12, 7, "HouseWiresModel$Coupler", tyX12, rfl, by decide, zin_X12, zT_tab 1164 (by decide +kernel) rfl, Or.inl rfl, rfl, by decide, tyX12_ok, nmX12, rfl, fun _ => rfl, (fun h => nomatch h), fun _ => rfl⟩
theorem zob_X15_1 : Cond.methodLink RX15 1 objectInit ∈ zT := zT_tab 1002 (by decide +kernel) rfl
theorem zp_X15_7_14 : zFldP RX15 7 14 5 true true := ⟨RX15, TX15, 40, "HouseWiresModel", tyX15, rfl, by decide, zin_X15, zT_tab 1187 (by decide +kernel) rfl, Or.inl rfl, rfl, by decide, tyX15_ok, nmX15, rfl, fun _ => rfl, (fun h => nomatch h), fun _ => rfl⟩
theorem zcl_X15_13 : Cond.classLink RX15 13 "HouseWiresModel$Out" ∈ zT := zT_tab 1003 (by decide +kernel) rfl
theorem zp_X15_15_14 : zFldP RX15 15 14 6 true true := ⟨RX15, TX15, 40, "HouseWiresModel", tyX15, rfl, by decide, zin_X15, zT_tab 1188 (by decide +kernel) rfl, Or.inl rfl, rfl, by decide, tyX15_ok, nmX15, rfl, fun _ => rfl, (fun h => nomatch h), fun _ => rfl⟩
theorem zcl_X15_19 : Cond.classLink RX15 19 "HouseWiresModel$Device" ∈ zT := zT_tab 1005 (by decide +kernel) rfl
theorem zp_X15_21_14 : zFldP RX15 21 14 8 true true := ⟨RX15, TX15, 40, "HouseWiresModel", tyX15, rfl, by decide, zin_X15, zT_tab 1190 (by decide +kernel) rfl, Or.inl rfl, rfl, by decide, tyX15_ok, nmX15, rfl, fun _ => rfl, (fun h => nomatch h), fun _ => rfl⟩
theorem zcl_X15_25 : Cond.classLink RX15 25 "HouseWiresModel$Coupler" ∈ zT := zT_tab 1007 (by decide +kernel) rfl
theorem zp_X15_27_14 : zFldP RX15 27 14 10 true true := ⟨RX15, TX15, 40, "HouseWiresModel", tyX15, rfl, by decide, zin_X15, zT_tab 1192 (by decide +kernel) rfl, Or.inl rfl, rfl, by decide, tyX15_ok, nmX15, rfl, fun _ => rfl, (fun h => nomatch h), fun _ => rfl⟩
theorem zp_X15_31_14 : zFldP RX15 31 14 11 true true := ⟨RX15, TX15, 40, "HouseWiresModel", tyX15, rfl, by decide, zin_X15, zT_tab 1193 (by decide +kernel) rfl, Or.inl rfl, rfl, by decide, tyX15_ok, nmX15, rfl, fun _ => rfl, (fun h => nomatch h), fun _ => rfl⟩
theorem zp_X15_34_14 : zFldP RX15 34 14 12 true true := ⟨RX15, TX15, 40, "HouseWiresModel", tyX15, rfl, by decide, zin_X15, zT_tab 1194 (by decide +kernel) rfl, Or.inl rfl, rfl, by decide, tyX15_ok, nmX15, rfl, fun _ => rfl, (fun h => nomatch h), fun _ => rfl⟩
theorem zp_X15_37_14 : zFldP RX15 37 14 13 true true := ⟨RX15, TX15, 40, "HouseWiresModel", tyX15, rfl, by decide, zin_X15, zT_tab 1195 (by decide +kernel) rfl, Or.inl rfl, rfl, by decide, tyX15_ok, nmX15, rfl, fun _ => rfl, (fun h => nomatch h), fun _ => rfl⟩
theorem zp_X15_40_14 : zFldP RX15 40 14 14 true true := ⟨RX15, TX15, 40, "HouseWiresModel", tyX15, rfl, by decide, zin_X15, zT_tab 1196 (by decide +kernel) rfl, Or.inl rfl, rfl, by decide, tyX15_ok, nmX15, rfl, fun _ => rfl, (fun h => nomatch h), fun _ => rfl⟩
theorem zp_X15_43_14 : zFldP RX15 43 14 20 false false := ⟨RX15, TX15, 40, "HouseWiresModel", tyX15, rfl, by decide, zin_X15, zT_tab 1202 (by decide +kernel) rfl, Or.inl rfl, rfl, by decide, tyX15_ok, nmX15, rfl, (fun h => nomatch h), fun _ => rfl, (fun h => nomatch h)⟩
theorem zp_X15_47_14 : zFldP RX15 47 14 21 true true := ⟨RX15, TX15, 40, "HouseWiresModel", tyX15, rfl, by decide, zin_X15, zT_tab 1203 (by decide +kernel) rfl, Or.inl rfl, rfl, by decide, tyX15_ok, nmX15, rfl, fun _ => rfl, (fun h => nomatch h), fun _ => rfl⟩
theorem zp_X15_50_14 : zFldP RX15 50 14 23 true true := ⟨RX15, TX15, 40, "HouseWiresModel", tyX15, rfl, by decide, zin_X15, zT_tab 1205 (by decide +kernel) rfl, Or.inl rfl, rfl, by decide, tyX15_ok, nmX15, rfl, fun _ => rfl, (fun h => nomatch h), fun _ => rfl⟩
theorem zp_X15_53_14 : zFldP RX15 53 14 24 true true := ⟨RX15, TX15, 40, "HouseWiresModel", tyX15, rfl, by decide, zin_X15, zT_tab 1206 (by decide +kernel) rfl, Or.inl rfl, rfl, by decide, tyX15_ok, nmX15, rfl, fun _ => rfl, (fun h => nomatch h), fun _ => rfl⟩
theorem zp_X15_56_14 : zFldP RX15 56 14 25 true true := ⟨RX15, TX15, 40, "HouseWiresModel", tyX15, rfl, by decide, zin_X15, zT_tab 1207 (by decide +kernel) rfl, Or.inl rfl, rfl, by decide, tyX15_ok, nmX15, rfl, fun _ => rfl, (fun h => nomatch h), fun _ => rfl⟩
theorem zp_X15_59_14 : zFldP RX15 59 14 27 true true := ⟨RX15, TX15, 40, "HouseWiresModel", tyX15, rfl, by decide, zin_X15, zT_tab 1209 (by decide +kernel) rfl, Or.inl rfl, rfl, by decide, tyX15_ok, nmX15, rfl, fun _ => rfl, (fun h => nomatch h), fun _ => rfl⟩
theorem zp_X15_62_14 : zFldP RX15 62 14 28 true true := ⟨RX15, TX15, 40, "HouseWiresModel", tyX15, rfl, by decide, zin_X15, zT_tab 1210 (by decide +kernel) rfl, Or.inl rfl, rfl, by decide, tyX15_ok, nmX15, rfl, fun _ => rfl, (fun h => nomatch h), fun _ => rfl⟩
theorem zac_boolean : Cond.arrayClass .boolean ∈ zT := zT_tab 1047 (by decide +kernel) rfl
theorem zp_X15_65_14 : zFldP RX15 65 14 29 true true := ⟨RX15, TX15, 40, "HouseWiresModel", tyX15, rfl, by decide, zin_X15, zT_tab 1211 (by decide +kernel) rfl, Or.inl rfl, rfl, by decide, tyX15_ok, nmX15, rfl, fun _ => rfl, (fun h => nomatch h), fun _ => rfl⟩
theorem zp_X15_69_14 : zFldP RX15 69 14 31 true true := ⟨RX15, TX15, 40, "HouseWiresModel", tyX15, rfl, by decide, zin_X15, zT_tab 1213 (by decide +kernel) rfl, Or.inl rfl, rfl, by decide, tyX15_ok, nmX15, rfl, fun _ => rfl, (fun h => nomatch h), fun _ => rfl⟩
theorem zp_X15_72_14 : zFldP RX15 72 14 33 true true := ⟨RX15, TX15, 40, "HouseWiresModel", tyX15, rfl, by decide, zin_X15, zT_tab 1215 (by decide +kernel) rfl, Or.inl rfl, rfl, by decide, tyX15_ok, nmX15, rfl, fun _ => rfl, (fun h => nomatch h), fun _ => rfl⟩
theorem zp_X15_75_14 : zFldP RX15 75 14 34 true true := ⟨RX15, TX15, 40, "HouseWiresModel", tyX15, rfl, by decide, zin_X15, zT_tab 1216 (by decide +kernel) rfl, Or.inl rfl, rfl, by decide, tyX15_ok, nmX15, rfl, fun _ => rfl, (fun h => nomatch h), fun _ => rfl⟩
theorem zp_X15_78_14 : zFldP RX15 78 14 35 true true := ⟨RX15, TX15, 40, "HouseWiresModel", tyX15, rfl, by decide, zin_X15, zT_tab 1217 (by decide +kernel) rfl, Or.inl rfl, rfl, by decide, tyX15_ok, nmX15, rfl, fun _ => rfl, (fun h => nomatch h), fun _ => rfl⟩
theorem zp_X15_81_14 : zFldP RX15 81 14 36 true true := ⟨RX15, TX15, 40, "HouseWiresModel", tyX15, rfl, by decide, zin_X15, zT_tab 1218 (by decide +kernel) rfl, Or.inl rfl, rfl, by decide, tyX15_ok, nmX15, rfl, fun _ => rfl, (fun h => nomatch h), fun _ => rfl⟩
theorem zp_X15_84_14 : zFldP RX15 84 14 37 true true := ⟨RX15, TX15, 40, "HouseWiresModel", tyX15, rfl, by decide, zin_X15, zT_tab 1219 (by decide +kernel) rfl, Or.inl rfl, rfl, by decide, tyX15_ok, nmX15, rfl, fun _ => rfl, (fun h => nomatch h), fun _ => rfl⟩
theorem zp_X15_87_14 : zFldP RX15 87 14 38 true true := ⟨RX15, TX15, 40, "HouseWiresModel", tyX15, rfl, by decide, zin_X15, zT_tab 1220 (by decide +kernel) rfl, Or.inl rfl, rfl, by decide, tyX15_ok, nmX15, rfl, fun _ => rfl, (fun h => nomatch h), fun _ => rfl⟩
theorem zf_X15_21_14 : zFld RX15 21 14 8 true := ⟨RX15, TX15, 40, "HouseWiresModel", rfl, by decide, zin_X15, zT_tab 1190 (by decide +kernel) rfl, Or.inl rfl, rfl, by decide⟩
theorem zn_X15_19 : zNew RX15 19 12 28 := ⟨RX13, TX13, tyX13, rfl, zin_X13, tyX13_ok, zT_tab 1005 (by decide +kernel) rfl, zT_tab 1009 (by decide +kernel) rfl, zT_tab 6 (by decide +kernel) rfl, by decide +kernel, by decide⟩
theorem zc_X15_90 : zCIN RX15 90 yX13_init cX13_init 1 0 := ⟨⟨"HouseWiresModel", by decide +kernel⟩, zT_tab 1011 (by decide +kernel) rfl, zT_tab 6 (by decide +kernel) rfl, zT_tab 1012 (by decide +kernel) rfl, rfl, by decide +kernel, by decide +kernel, by decide +kernel⟩
theorem zf_X15_27_14 : zFld RX15 27 14 10 true := ⟨RX15, TX15, 40, "HouseWiresModel", rfl, by decide, zin_X15, zT_tab 1192 (by decide +kernel) rfl, Or.inl rfl, rfl, by decide⟩
theorem zn_X15_25 : zNew RX15 25 11 7 := ⟨RX12, TX12, tyX12, rfl, zin_X12, tyX12_ok, zT_tab 1007 (by decide +kernel) rfl, zT_tab 1146 (by decide +kernel) rfl, zT_tab 8 (by decide +kernel) rfl, by decide +kernel, by decide⟩
theorem zc_X15_91 : zCIN RX15 91 yX12_init cX12_init 1 0 := ⟨⟨"HouseWiresModel", by decide +kernel⟩, zT_tab 1148 (by decide +kernel) rfl, zT_tab 8 (by decide +kernel) rfl, zT_tab 1149 (by decide +kernel) rfl, rfl, by decide +kernel, by decide +kernel, by decide +kernel⟩
theorem zf_X15_15_14 : zFld RX15 15 14 6 true := ⟨RX15, TX15, 40, "HouseWiresModel", rfl, by decide, zin_X15, zT_tab 1188 (by decide +kernel) rfl, Or.inl rfl, rfl, by decide⟩
theorem zn_X15_13 : zNew RX15 13 13 6 := ⟨RX14, TX14, tyX14, rfl, zin_X14, tyX14_ok, zT_tab 1003 (by decide +kernel) rfl, zT_tab 1015 (by decide +kernel) rfl, zT_tab 7 (by decide +kernel) rfl, by decide +kernel, by decide⟩
theorem zc_X15_92 : zCIN RX15 92 yX14_init cX14_init 1 0 := ⟨⟨"HouseWiresModel", by decide +kernel⟩, zT_tab 1017 (by decide +kernel) rfl, zT_tab 7 (by decide +kernel) rfl, zT_tab 1018 (by decide +kernel) rfl, rfl, by decide +kernel, by decide +kernel, by decide +kernel⟩
theorem zf_X15_93_14 : zFld RX15 93 14 0 false := ⟨RX15, TX15, 40, "HouseWiresModel", rfl, by decide, zin_X15, zT_tab 1182 (by decide +kernel) rfl, Or.inl rfl, rfl, by decide⟩
theorem zf_X15_132_14 : zFld RX15 132 14 4 false := ⟨RX15, TX15, 40, "HouseWiresModel", rfl, by decide, zin_X15, zT_tab 1186 (by decide +kernel) rfl, Or.inl rfl, rfl, by decide⟩
theorem zc_X15_135 : zCS RX15 135 yX15_in cX15_in 3 (some .boolean) 3 := ⟨zT_tab 1311 (by decide +kernel) rfl, zT_tab 1312 (by decide +kernel) rfl, zT_tab 5 (by decide +kernel) rfl, zT_tab 1313 (by decide +kernel) rfl, by decide +kernel, by decide +kernel, by decide +kernel⟩
theorem zf_X15_139_14 : zFld RX15 139 14 7 false := ⟨RX15, TX15, 40, "HouseWiresModel", rfl, by decide, zin_X15, zT_tab 1189 (by decide +kernel) rfl, Or.inl rfl, rfl, by decide⟩
theorem zf_X15_142_14 : zFld RX15 142 14 9 false := ⟨RX15, TX15, 40, "HouseWiresModel", rfl, by decide, zin_X15, zT_tab 1191 (by decide +kernel) rfl, Or.inl rfl, rfl, by decide⟩
theorem zc_X15_145 : zCV RX15 145 14 yX15_isDevice cX15_isDevice 2 (some .boolean) 1 := ⟨RX15, TX15, 40, rfl, zT_tab 1351 (by decide +kernel) rfl, zT_tab 1353 (by decide +kernel) rfl, zT_prv 34 (by decide +kernel) rfl, zT_tab 5 (by decide +kernel) rfl, zT_tab 1354 (by decide +kernel) rfl, by decide, rfl, by decide +kernel, by decide +kernel, by decide +kernel⟩
theorem zf_X15_149_12 : zFld RX15 149 12 6 false := ⟨RX13, TX13, 28, "HouseWiresModel$Device", rfl, by decide, zin_X13, zT_tab 1056 (by decide +kernel) rfl, Or.inl rfl, rfl, by decide⟩
theorem zf_X15_7_14 : zFld RX15 7 14 5 true := ⟨RX15, TX15, 40, "HouseWiresModel", rfl, by decide, zin_X15, zT_tab 1187 (by decide +kernel) rfl, Or.inl rfl, rfl, by decide⟩
theorem zp_X15_93_14 : zFldP RX15 93 14 0 false false := ⟨RX15, TX15, 40, "HouseWiresModel", tyX15, rfl, by decide, zin_X15, zT_tab 1182 (by decide +kernel) rfl, Or.inl rfl, rfl, by decide, tyX15_ok, nmX15, rfl, (fun h => nomatch h), fun _ => rfl, (fun h => nomatch h)⟩
theorem zc_X15_355 : zCV RX15 355 14 yX15_lineOf cX15_lineOf 4 (some .int) 1 := ⟨RX15, TX15, 40, rfl, zT_tab 1314 (by decide +kernel) rfl, zT_tab 1316 (by decide +kernel) rfl, zT_prv 30 (by decide +kernel) rfl, zT_tab 5 (by decide +kernel) rfl, zT_tab 1317 (by decide +kernel) rfl, by decide, rfl, by decide +kernel, by decide +kernel, by decide +kernel⟩
theorem zp_X15_132_14 : zFldP RX15 132 14 4 false false := ⟨RX15, TX15, 40, "HouseWiresModel", tyX15, rfl, by decide, zin_X15, zT_tab 1186 (by decide +kernel) rfl, Or.inl rfl, rfl, by decide, tyX15_ok, nmX15, rfl, (fun h => nomatch h), fun _ => rfl, (fun h => nomatch h)⟩
theorem zc_X15_399 : zCV RX15 399 14 yX15_isLine cX15_isLine 2 (some .boolean) 1 := ⟨RX15, TX15, 40, rfl, zT_tab 1322 (by decide +kernel) rfl, zT_tab 1324 (by decide +kernel) rfl, zT_prv 31 (by decide +kernel) rfl, zT_tab 5 (by decide +kernel) rfl, zT_tab 1325 (by decide +kernel) rfl, by decide, rfl, by decide +kernel, by decide +kernel, by decide +kernel⟩
theorem zp_X15_271_12 : zFldP RX15 271 12 0 false false := ⟨RX13, TX13, 28, "HouseWiresModel$Device", tyX13, rfl, by decide, zin_X13, zT_tab 1048 (by decide +kernel) rfl, Or.inl rfl, rfl, by decide, tyX13_ok, nmX13, rfl, (fun h => nomatch h), fun _ => rfl, (fun h => nomatch h)⟩
theorem zp_X15_152_12 : zFldP RX15 152 12 1 false false := ⟨RX13, TX13, 28, "HouseWiresModel$Device", tyX13, rfl, by decide, zin_X13, zT_tab 1049 (by decide +kernel) rfl, Or.inl rfl, rfl, by decide, tyX13_ok, nmX13, rfl, (fun h => nomatch h), fun _ => rfl, (fun h => nomatch h)⟩
theorem zp_X15_139_14 : zFldP RX15 139 14 7 false false := ⟨RX15, TX15, 40, "HouseWiresModel", tyX15, rfl, by decide, zin_X15, zT_tab 1189 (by decide +kernel) rfl, Or.inl rfl, rfl, by decide, tyX15_ok, nmX15, rfl, (fun h => nomatch h), fun _ => rfl, (fun h => nomatch h)⟩
theorem zf_X15_152_12 : zFld RX15 152 12 1 false := ⟨RX13, TX13, 28, "HouseWiresModel$Device", rfl, by decide, zin_X13, zT_tab 1049 (by decide +kernel) rfl, Or.inl rfl, rfl, by decide⟩
theorem zc_X15_358 : zCV RX15 358 14 yX15_isJoined cX15_isJoined 9 (some .boolean) 3 := ⟨RX15, TX15, 40, rfl, zT_tab 1330 (by decide +kernel) rfl, zT_tab 1332 (by decide +kernel) rfl, zT_prv 32 (by decide +kernel) rfl, zT_tab 5 (by decide +kernel) rfl, zT_tab 1333 (by decide +kernel) rfl, by decide, rfl, by decide +kernel, by decide +kernel, by decide +kernel⟩
theorem zf_X15_278_11 : zFld RX15 278 11 0 true := ⟨RX12, TX12, 7, "HouseWiresModel$Coupler", rfl, by decide, zin_X12, zT_tab 1155 (by decide +kernel) rfl, Or.inl rfl, rfl, by decide⟩
theorem zp_X15_142_14 : zFldP RX15 142 14 9 false false := ⟨RX15, TX15, 40, "HouseWiresModel", tyX15, rfl, by decide, zin_X15, zT_tab 1191 (by decide +kernel) rfl, Or.inl rfl, rfl, by decide, tyX15_ok, nmX15, rfl, (fun h => nomatch h), fun _ => rfl, (fun h => nomatch h)⟩
theorem zc_X15_402 : zCV RX15 402 14 yX15_isCoupler cX15_isCoupler 2 (some .boolean) 1 := ⟨RX15, TX15, 40, rfl, zT_tab 1338 (by decide +kernel) rfl, zT_tab 1340 (by decide +kernel) rfl, zT_prv 33 (by decide +kernel) rfl, zT_tab 5 (by decide +kernel) rfl, zT_tab 1341 (by decide +kernel) rfl, by decide, rfl, by decide +kernel, by decide +kernel, by decide +kernel⟩
theorem zp_X15_352_11 : zFldP RX15 352 11 1 false false := ⟨RX12, TX12, 7, "HouseWiresModel$Coupler", tyX12, rfl, by decide, zin_X12, zT_tab 1156 (by decide +kernel) rfl, Or.inl rfl, rfl, by decide, tyX12_ok, nmX12, rfl, (fun h => nomatch h), fun _ => rfl, (fun h => nomatch h)⟩
theorem zk_X15_405 : Cond.constant RX15 405 65535 ∈ zT := zT_tab 1346 (by decide +kernel) rfl
theorem zf_X15_346_11 : zFld RX15 346 11 3 false := ⟨RX12, TX12, 7, "HouseWiresModel$Coupler", rfl, by decide, zin_X12, zT_tab 1159 (by decide +kernel) rfl, Or.inl rfl, rfl, by decide⟩
theorem zf_X15_349_11 : zFld RX15 349 11 2 true := ⟨RX12, TX12, 7, "HouseWiresModel$Coupler", rfl, by decide, zin_X12, zT_tab 1158 (by decide +kernel) rfl, Or.inl rfl, rfl, by decide⟩
theorem zp_X15_346_11 : zFldP RX15 346 11 3 false false := ⟨RX12, TX12, 7, "HouseWiresModel$Coupler", tyX12, rfl, by decide, zin_X12, zT_tab 1159 (by decide +kernel) rfl, Or.inl rfl, rfl, by decide, tyX12_ok, nmX12, rfl, (fun h => nomatch h), fun _ => rfl, (fun h => nomatch h)⟩
theorem zf_X15_167_12 : zFld RX15 167 12 7 true := ⟨RX13, TX13, 28, "HouseWiresModel$Device", rfl, by decide, zin_X13, zT_tab 1058 (by decide +kernel) rfl, Or.inl rfl, rfl, by decide⟩
theorem zc_X15_409 : zCV RX15 409 14 yX15_isObject cX15_isObject 3 (some .boolean) 2 := ⟨RX15, TX15, 40, rfl, zT_tab 1361 (by decide +kernel) rfl, zT_tab 1363 (by decide +kernel) rfl, zT_prv 35 (by decide +kernel) rfl, zT_tab 5 (by decide +kernel) rfl, zT_tab 1364 (by decide +kernel) rfl, by decide, rfl, by decide +kernel, by decide +kernel, by decide +kernel⟩
theorem zf_X15_189_12 : zFld RX15 189 12 10 true := ⟨RX13, TX13, 28, "HouseWiresModel$Device", rfl, by decide, zin_X13, zT_tab 1064 (by decide +kernel) rfl, Or.inl rfl, rfl, by decide⟩
theorem zf_X15_180_12 : zFld RX15 180 12 12 false := ⟨RX13, TX13, 28, "HouseWiresModel$Device", rfl, by decide, zin_X13, zT_tab 1067 (by decide +kernel) rfl, Or.inl rfl, rfl, by decide⟩
theorem zf_X15_183_12 : zFld RX15 183 12 13 true := ⟨RX13, TX13, 28, "HouseWiresModel$Device", rfl, by decide, zin_X13, zT_tab 1069 (by decide +kernel) rfl, Or.inl rfl, rfl, by decide⟩
theorem zf_X15_186_12 : zFld RX15 186 12 14 true := ⟨RX13, TX13, 28, "HouseWiresModel$Device", rfl, by decide, zin_X13, zT_tab 1071 (by decide +kernel) rfl, Or.inl rfl, rfl, by decide⟩
theorem zp_X15_180_12 : zFldP RX15 180 12 12 false false := ⟨RX13, TX13, 28, "HouseWiresModel$Device", tyX13, rfl, by decide, zin_X13, zT_tab 1067 (by decide +kernel) rfl, Or.inl rfl, rfl, by decide, tyX13_ok, nmX13, rfl, (fun h => nomatch h), fun _ => rfl, (fun h => nomatch h)⟩
theorem zc_X15_417 : zCV RX15 417 14 yX15_sets cX15_sets 6 (some .int) 3 := ⟨RX15, TX15, 40, rfl, zT_tab 1373 (by decide +kernel) rfl, zT_tab 1375 (by decide +kernel) rfl, zT_prv 36 (by decide +kernel) rfl, zT_tab 5 (by decide +kernel) rfl, zT_tab 1376 (by decide +kernel) rfl, by decide, rfl, by decide +kernel, by decide +kernel, by decide +kernel⟩
theorem zc_X15_413 : zCS RX15 413 yX15_ownGroup cX15_ownGroup 4 (some .int) 2 := ⟨zT_tab 1377 (by decide +kernel) rfl, zT_tab 1378 (by decide +kernel) rfl, zT_tab 5 (by decide +kernel) rfl, zT_tab 1379 (by decide +kernel) rfl, by decide +kernel, by decide +kernel, by decide +kernel⟩
theorem zf_X15_155_12 : zFld RX15 155 12 2 true := ⟨RX13, TX13, 28, "HouseWiresModel$Device", rfl, by decide, zin_X13, zT_tab 1051 (by decide +kernel) rfl, Or.inl rfl, rfl, by decide⟩
theorem zf_X15_96_13 : zFld RX15 96 13 5 false := ⟨RX14, TX14, 6, "HouseWiresModel$Out", rfl, by decide, zin_X14, zT_tab 1033 (by decide +kernel) rfl, Or.inl rfl, rfl, by decide⟩
theorem zf_X15_37_14 : zFld RX15 37 14 13 true := ⟨RX15, TX15, 40, "HouseWiresModel", rfl, by decide, zin_X15, zT_tab 1195 (by decide +kernel) rfl, Or.inl rfl, rfl, by decide⟩
theorem zf_X15_177_12 : zFld RX15 177 12 9 true := ⟨RX13, TX13, 28, "HouseWiresModel$Device", rfl, by decide, zin_X13, zT_tab 1062 (by decide +kernel) rfl, Or.inl rfl, rfl, by decide⟩
theorem zc_X15_163 : zCV RX15 163 14 yX15_tells cX15_tells 8 (some .int) 6 := ⟨RX15, TX15, 40, rfl, zT_tab 1390 (by decide +kernel) rfl, zT_tab 1392 (by decide +kernel) rfl, zT_prv 38 (by decide +kernel) rfl, zT_tab 5 (by decide +kernel) rfl, zT_tab 1393 (by decide +kernel) rfl, by decide, rfl, by decide +kernel, by decide +kernel, by decide +kernel⟩
theorem zk_X15_422 : Cond.constantLong RX15 422 (-1) ∈ zT := zT_tab 1410 (by decide +kernel) rfl
theorem zf_X15_174_12 : zFld RX15 174 12 8 true := ⟨RX13, TX13, 28, "HouseWiresModel$Device", rfl, by decide, zin_X13, zT_tab 1060 (by decide +kernel) rfl, Or.inl rfl, rfl, by decide⟩
theorem zk_X15_420 : Cond.constantLong RX15 420 4294967295 ∈ zT := zT_tab 1409 (by decide +kernel) rfl
theorem zf_X15_200_12 : zFld RX15 200 12 11 true := ⟨RX13, TX13, 28, "HouseWiresModel$Device", rfl, by decide, zin_X13, zT_tab 1066 (by decide +kernel) rfl, Or.inl rfl, rfl, by decide⟩
theorem zk_X15_426 : Cond.constantLong RX15 426 (-9223372036854775808) ∈ zT := zT_tab 1419 (by decide +kernel) rfl
theorem zk_X15_428 : Cond.constant RX15 428 32768 ∈ zT := zT_tab 1420 (by decide +kernel) rfl
theorem zf_X15_210_12 : zFld RX15 210 12 18 false := ⟨RX13, TX13, 28, "HouseWiresModel$Device", rfl, by decide, zin_X13, zT_tab 1077 (by decide +kernel) rfl, Or.inl rfl, rfl, by decide⟩
theorem zp_X15_210_12 : zFldP RX15 210 12 18 false false := ⟨RX13, TX13, 28, "HouseWiresModel$Device", tyX13, rfl, by decide, zin_X13, zT_tab 1077 (by decide +kernel) rfl, Or.inl rfl, rfl, by decide, tyX13_ok, nmX13, rfl, (fun h => nomatch h), fun _ => rfl, (fun h => nomatch h)⟩
theorem zp_X15_203_12 : zFldP RX15 203 12 19 false false := ⟨RX13, TX13, 28, "HouseWiresModel$Device", tyX13, rfl, by decide, zin_X13, zT_tab 1078 (by decide +kernel) rfl, Or.inl rfl, rfl, by decide, tyX13_ok, nmX13, rfl, (fun h => nomatch h), fun _ => rfl, (fun h => nomatch h)⟩
theorem zp_X15_216_12 : zFldP RX15 216 12 20 false false := ⟨RX13, TX13, 28, "HouseWiresModel$Device", tyX13, rfl, by decide, zin_X13, zT_tab 1079 (by decide +kernel) rfl, Or.inl rfl, rfl, by decide, tyX13_ok, nmX13, rfl, (fun h => nomatch h), fun _ => rfl, (fun h => nomatch h)⟩
theorem zp_X15_246_12 : zFldP RX15 246 12 21 false false := ⟨RX13, TX13, 28, "HouseWiresModel$Device", tyX13, rfl, by decide, zin_X13, zT_tab 1080 (by decide +kernel) rfl, Or.inl rfl, rfl, by decide, tyX13_ok, nmX13, rfl, (fun h => nomatch h), fun _ => rfl, (fun h => nomatch h)⟩
theorem zc_X15_206 : zCV RX15 206 14 yX15_tellsOne cX15_tellsOne 4 (some .int) 3 := ⟨RX15, TX15, 40, rfl, zT_tab 1429 (by decide +kernel) rfl, zT_tab 1431 (by decide +kernel) rfl, zT_prv 40 (by decide +kernel) rfl, zT_tab 5 (by decide +kernel) rfl, zT_tab 1432 (by decide +kernel) rfl, by decide, rfl, by decide +kernel, by decide +kernel, by decide +kernel⟩
theorem zp_X15_396_12 : zFldP RX15 396 12 25 false false := ⟨RX13, TX13, 28, "HouseWiresModel$Device", tyX13, rfl, by decide, zin_X13, zT_tab 1085 (by decide +kernel) rfl, Or.inl rfl, rfl, by decide, tyX13_ok, nmX13, rfl, (fun h => nomatch h), fun _ => rfl, (fun h => nomatch h)⟩
theorem zc_X15_231 : zCV RX15 231 14 yX15_closes cX15_closes 3 none 1 := ⟨RX15, TX15, 40, rfl, zT_tab 1437 (by decide +kernel) rfl, zT_tab 1439 (by decide +kernel) rfl, zT_prv 41 (by decide +kernel) rfl, zT_tab 5 (by decide +kernel) rfl, zT_tab 1440 (by decide +kernel) rfl, by decide, rfl, by decide +kernel, by decide +kernel, by decide +kernel⟩
theorem zc_X15_429 : zCV RX15 429 14 yX15_mayOrder cX15_mayOrder 5 (some .boolean) 4 := ⟨RX15, TX15, 40, rfl, zT_tab 1445 (by decide +kernel) rfl, zT_tab 1447 (by decide +kernel) rfl, zT_prv 42 (by decide +kernel) rfl, zT_tab 5 (by decide +kernel) rfl, zT_tab 1448 (by decide +kernel) rfl, by decide, rfl, by decide +kernel, by decide +kernel, by decide +kernel⟩
theorem zf_X15_84_14 : zFld RX15 84 14 37 true := ⟨RX15, TX15, 40, "HouseWiresModel", rfl, by decide, zin_X15, zT_tab 1219 (by decide +kernel) rfl, Or.inl rfl, rfl, by decide⟩
theorem zc_X15_259 : zCV RX15 259 14 yX15_sendsData cX15_sendsData 5 none 3 := ⟨RX15, TX15, 40, rfl, zT_tab 1449 (by decide +kernel) rfl, zT_tab 1451 (by decide +kernel) rfl, zT_prv 43 (by decide +kernel) rfl, zT_tab 5 (by decide +kernel) rfl, zT_tab 1452 (by decide +kernel) rfl, by decide, rfl, by decide +kernel, by decide +kernel, by decide +kernel⟩
theorem zf_X15_256_12 : zFld RX15 256 12 15 true := ⟨RX13, TX13, 28, "HouseWiresModel$Device", rfl, by decide, zin_X13, zT_tab 1073 (by decide +kernel) rfl, Or.inl rfl, rfl, by decide⟩
theorem zf_X15_262_12 : zFld RX15 262 12 17 false := ⟨RX13, TX13, 28, "HouseWiresModel$Device", rfl, by decide, zin_X13, zT_tab 1076 (by decide +kernel) rfl, Or.inl rfl, rfl, by decide⟩
theorem zf_X15_265_12 : zFld RX15 265 12 16 true := ⟨RX13, TX13, 28, "HouseWiresModel$Device", rfl, by decide, zin_X13, zT_tab 1075 (by decide +kernel) rfl, Or.inl rfl, rfl, by decide⟩
theorem zf_X15_203_12 : zFld RX15 203 12 19 false := ⟨RX13, TX13, 28, "HouseWiresModel$Device", rfl, by decide, zin_X13, zT_tab 1078 (by decide +kernel) rfl, Or.inl rfl, rfl, by decide⟩
theorem zf_X15_216_12 : zFld RX15 216 12 20 false := ⟨RX13, TX13, 28, "HouseWiresModel$Device", rfl, by decide, zin_X13, zT_tab 1079 (by decide +kernel) rfl, Or.inl rfl, rfl, by decide⟩
theorem zf_X15_246_12 : zFld RX15 246 12 21 false := ⟨RX13, TX13, 28, "HouseWiresModel$Device", rfl, by decide, zin_X13, zT_tab 1080 (by decide +kernel) rfl, Or.inl rfl, rfl, by decide⟩
theorem zf_X15_222_12 : zFld RX15 222 12 22 false := ⟨RX13, TX13, 28, "HouseWiresModel$Device", rfl, by decide, zin_X13, zT_tab 1081 (by decide +kernel) rfl, Or.inl rfl, rfl, by decide⟩
theorem zf_X15_225_12 : zFld RX15 225 12 23 false := ⟨RX13, TX13, 28, "HouseWiresModel$Device", rfl, by decide, zin_X13, zT_tab 1082 (by decide +kernel) rfl, Or.inl rfl, rfl, by decide⟩
theorem zf_X15_228_12 : zFld RX15 228 12 24 false := ⟨RX13, TX13, 28, "HouseWiresModel$Device", rfl, by decide, zin_X13, zT_tab 1083 (by decide +kernel) rfl, Or.inl rfl, rfl, by decide⟩
theorem zf_X15_317_12 : zFld RX15 317 12 3 false := ⟨RX13, TX13, 28, "HouseWiresModel$Device", rfl, by decide, zin_X13, zT_tab 1052 (by decide +kernel) rfl, Or.inl rfl, rfl, by decide⟩
theorem zp_X15_317_12 : zFldP RX15 317 12 3 false false := ⟨RX13, TX13, 28, "HouseWiresModel$Device", tyX13, rfl, by decide, zin_X13, zT_tab 1052 (by decide +kernel) rfl, Or.inl rfl, rfl, by decide, tyX13_ok, nmX13, rfl, (fun h => nomatch h), fun _ => rfl, (fun h => nomatch h)⟩
theorem zf_X15_433_14 : zFld RX15 433 14 39 false := ⟨RX15, TX15, 40, "HouseWiresModel", rfl, by decide, zin_X15, zT_tab 1221 (by decide +kernel) rfl, Or.inl rfl, rfl, by decide⟩
theorem zf_X15_87_14 : zFld RX15 87 14 38 true := ⟨RX15, TX15, 40, "HouseWiresModel", rfl, by decide, zin_X15, zT_tab 1220 (by decide +kernel) rfl, Or.inl rfl, rfl, by decide⟩
theorem zp_X15_433_14 : zFldP RX15 433 14 39 false false := ⟨RX15, TX15, 40, "HouseWiresModel", tyX15, rfl, by decide, zin_X15, zT_tab 1221 (by decide +kernel) rfl, Or.inl rfl, rfl, by decide, tyX15_ok, nmX15, rfl, (fun h => nomatch h), fun _ => rfl, (fun h => nomatch h)⟩
theorem zc_X15_159 : zCV RX15 159 14 yX15_comes cX15_comes 5 (some .int) 3 := ⟨RX15, TX15, 40, rfl, zT_tab 1397 (by decide +kernel) rfl, zT_tab 1399 (by decide +kernel) rfl, zT_prv 39 (by decide +kernel) rfl, zT_tab 5 (by decide +kernel) rfl, zT_tab 1400 (by decide +kernel) rfl, by decide, rfl, by decide +kernel, by decide +kernel, by decide +kernel⟩
theorem zf_X15_295_14 : zFld RX15 295 14 26 false := ⟨RX15, TX15, 40, "HouseWiresModel", rfl, by decide, zin_X15, zT_tab 1208 (by decide +kernel) rfl, Or.inl rfl, rfl, by decide⟩
theorem zf_X15_50_14 : zFld RX15 50 14 23 true := ⟨RX15, TX15, 40, "HouseWiresModel", rfl, by decide, zin_X15, zT_tab 1205 (by decide +kernel) rfl, Or.inl rfl, rfl, by decide⟩
theorem zf_X15_298_14 : zFld RX15 298 14 15 false := ⟨RX15, TX15, 40, "HouseWiresModel", rfl, by decide, zin_X15, zT_tab 1197 (by decide +kernel) rfl, Or.inl rfl, rfl, by decide⟩
theorem zf_X15_53_14 : zFld RX15 53 14 24 true := ⟨RX15, TX15, 40, "HouseWiresModel", rfl, by decide, zin_X15, zT_tab 1206 (by decide +kernel) rfl, Or.inl rfl, rfl, by decide⟩
theorem zp_X15_295_14 : zFldP RX15 295 14 26 false false := ⟨RX15, TX15, 40, "HouseWiresModel", tyX15, rfl, by decide, zin_X15, zT_tab 1208 (by decide +kernel) rfl, Or.inl rfl, rfl, by decide, tyX15_ok, nmX15, rfl, (fun h => nomatch h), fun _ => rfl, (fun h => nomatch h)⟩
theorem zf_X15_56_14 : zFld RX15 56 14 25 true := ⟨RX15, TX15, 40, "HouseWiresModel", rfl, by decide, zin_X15, zT_tab 1207 (by decide +kernel) rfl, Or.inl rfl, rfl, by decide⟩
theorem zf_X15_112_14 : zFld RX15 112 14 1 false := ⟨RX15, TX15, 40, "HouseWiresModel", rfl, by decide, zin_X15, zT_tab 1183 (by decide +kernel) rfl, Or.inl rfl, rfl, by decide⟩
theorem zp_X15_112_14 : zFldP RX15 112 14 1 false false := ⟨RX15, TX15, 40, "HouseWiresModel", tyX15, rfl, by decide, zin_X15, zT_tab 1183 (by decide +kernel) rfl, Or.inl rfl, rfl, by decide, tyX15_ok, nmX15, rfl, (fun h => nomatch h), fun _ => rfl, (fun h => nomatch h)⟩
theorem zc_X15_436 : zCV RX15 436 14 yX15_goesOn cX15_goesOn 7 none 1 := ⟨RX15, TX15, 40, rfl, zT_tab 1497 (by decide +kernel) rfl, zT_tab 1499 (by decide +kernel) rfl, zT_prv 44 (by decide +kernel) rfl, zT_tab 5 (by decide +kernel) rfl, zT_tab 1500 (by decide +kernel) rfl, by decide, rfl, by decide +kernel, by decide +kernel, by decide +kernel⟩
theorem zc_X15_439 : zCV RX15 439 14 yX15_times cX15_times 2 none 1 := ⟨RX15, TX15, 40, rfl, zT_tab 1593 (by decide +kernel) rfl, zT_tab 1595 (by decide +kernel) rfl, zT_prv 61 (by decide +kernel) rfl, zT_tab 5 (by decide +kernel) rfl, zT_tab 1596 (by decide +kernel) rfl, by decide, rfl, by decide +kernel, by decide +kernel, by decide +kernel⟩
theorem zf_X15_292_14 : zFld RX15 292 14 22 false := ⟨RX15, TX15, 40, "HouseWiresModel", rfl, by decide, zin_X15, zT_tab 1204 (by decide +kernel) rfl, Or.inl rfl, rfl, by decide⟩
theorem zf_X15_47_14 : zFld RX15 47 14 21 true := ⟨RX15, TX15, 40, "HouseWiresModel", rfl, by decide, zin_X15, zT_tab 1203 (by decide +kernel) rfl, Or.inl rfl, rfl, by decide⟩
theorem zf_X15_390_14 : zFld RX15 390 14 16 false := ⟨RX15, TX15, 40, "HouseWiresModel", rfl, by decide, zin_X15, zT_tab 1198 (by decide +kernel) rfl, Or.inl rfl, rfl, by decide⟩
theorem zf_X15_393_14 : zFld RX15 393 14 17 false := ⟨RX15, TX15, 40, "HouseWiresModel", rfl, by decide, zin_X15, zT_tab 1199 (by decide +kernel) rfl, Or.inl rfl, rfl, by decide⟩
theorem zf_X15_99_14 : zFld RX15 99 14 3 false := ⟨RX15, TX15, 40, "HouseWiresModel", rfl, by decide, zin_X15, zT_tab 1185 (by decide +kernel) rfl, Or.inl rfl, rfl, by decide⟩
theorem zf_X15_343_14 : zFld RX15 343 14 18 false := ⟨RX15, TX15, 40, "HouseWiresModel", rfl, by decide, zin_X15, zT_tab 1200 (by decide +kernel) rfl, Or.inl rfl, rfl, by decide⟩
theorem zf_X15_381_14 : zFld RX15 381 14 19 false := ⟨RX15, TX15, 40, "HouseWiresModel", rfl, by decide, zin_X15, zT_tab 1201 (by decide +kernel) rfl, Or.inl rfl, rfl, by decide⟩
theorem zf_X15_43_14 : zFld RX15 43 14 20 false := ⟨RX15, TX15, 40, "HouseWiresModel", rfl, by decide, zin_X15, zT_tab 1202 (by decide +kernel) rfl, Or.inl rfl, rfl, by decide⟩
theorem zf_X15_280_11 : zFld RX15 280 11 4 true := ⟨RX12, TX12, 7, "HouseWiresModel$Coupler", rfl, by decide, zin_X12, zT_tab 1161 (by decide +kernel) rfl, Or.inl rfl, rfl, by decide⟩
end
section
set_option maxRecDepth 100000 in
set_option maxHeartbeats 4000000 in
theorem b_X9_init_0 {G : zG} {X : zX} (O : zOK G X cX9_init 1 RX9 none "<init>") (hR : X.R = rm_X9_init) {M : zM} {n k : Nat} {a0 : Nat} (h : X.q M none) : zW G X 1 M n k 0 [(0, .ref a0)] [] := by
  refine z_aload_n O dX9_init_0 rfl 0 rfl ?_
  refine z_obj O zob_X9_1 zob_1 zob_2 dX9_init_1 (by rw [hR]; decide) (by rw [hR]; decide) ?_
  exact z_vret O dX9_init_4 h
set_option maxRecDepth 100000 in
set_option maxHeartbeats 4000000 in
theorem b_X4_init_0 {G : zG} {X : zX} (O : zOK G X cX4_init 1 RX4 none "<init>") (hR : X.R = rm_X4_init) {M : zM} {n k : Nat} {a0 : Nat} (h : n + 1 ≤ X.R.cells ∧ k + 64 ≤ X.R.slots ∧ ∀ q1 : Nat, M.1 q1 = 0 → ∀ M2 : zM, M2 = zn M q1 100 64 → M2.1 a0 = 5 ∧ ∀ M3 : zM, M3 = zr M2 a0 0 (some q1) → (n + 1) + 1 ≤ X.R.cells ∧ (k + 64) + 64 ≤ X.R.slots ∧ ∀ q4 : Nat, M3.1 q4 = 0 → ∀ M5 : zM, M5 = zn M3 q4 100 64 → M5.1 a0 = 5 ∧ ∀ M6 : zM, M6 = zr M5 a0 1 (some q4) → ((n + 1) + 1) + 1 ≤ X.R.cells ∧ ((k + 64) + 64) + 64 ≤ X.R.slots ∧ ∀ q7 : Nat, M6.1 q7 = 0 → ∀ M8 : zM, M8 = zn M6 q7 100 64 → M8.1 a0 = 5 ∧ ∀ M9 : zM, M9 = zr M8 a0 2 (some q7) → X.q M9 none) : zW G X 1 M n k 0 [(0, .ref a0)] [] := by
  refine z_aload_n O dX4_init_0 rfl 0 rfl ?_
  refine z_obj O zob_X4_3 zob_1 zob_2 dX4_init_1 (by rw [hR]; decide) (by rw [hR]; decide) ?_
  refine z_aload_n O dX4_init_4 rfl 0 rfl ?_
  refine z_bipush (v := 64) O dX4_init_5 rfl ?_
  obtain ⟨hn, hs, h⟩ := h
  refine z_newi (N := 64) O zac_int dX4_init_7 (by decide) (by decide) (by decide) hn hs (fun q1 fq1 => ?_)
  generalize eM2 : zn M q1 100 64 = M2
  replace h := h q1 fq1 M2 eM2.symm
  obtain ⟨hk, h⟩ := h
  refine z_putrF O zp_X4_9_4 dX4_init_9 hk ?_
  generalize eM3 : zr M2 a0 0 (some q1) = M3
  replace h := h M3 eM3.symm
  refine z_aload_n O dX4_init_12 rfl 0 rfl ?_
  refine z_bipush (v := 64) O dX4_init_13 rfl ?_
  obtain ⟨hn, hs, h⟩ := h
  refine z_newi (N := 64) O zac_int dX4_init_15 (by decide) (by decide) (by decide) hn hs (fun q4 fq4 => ?_)
  generalize eM5 : zn M3 q4 100 64 = M5
  replace h := h q4 fq4 M5 eM5.symm
  obtain ⟨hk, h⟩ := h
  refine z_putrF O zp_X4_15_4 dX4_init_17 hk ?_
  generalize eM6 : zr M5 a0 1 (some q4) = M6
  replace h := h M6 eM6.symm
  refine z_aload_n O dX4_init_20 rfl 0 rfl ?_
  refine z_bipush (v := 64) O dX4_init_21 rfl ?_
  obtain ⟨hn, hs, h⟩ := h
  refine z_newi (N := 64) O zac_int dX4_init_23 (by decide) (by decide) (by decide) hn hs (fun q7 fq7 => ?_)
  generalize eM8 : zn M6 q7 100 64 = M8
  replace h := h q7 fq7 M8 eM8.symm
  obtain ⟨hk, h⟩ := h
  refine z_putrF O zp_X4_18_4 dX4_init_25 hk ?_
  generalize eM9 : zr M8 a0 2 (some q7) = M9
  replace h := h M9 eM9.symm
  exact z_vret O dX4_init_28 h
set_option maxRecDepth 100000 in
set_option maxHeartbeats 4000000 in
theorem b_X4_add_0 {G : zG} {X : zX} (O : zOK G X cX4_add 5 RX4 (some .boolean) "add") (hR : X.R = rm_X4_add) {M : zM} {n k : Nat} {a0 : Nat} {x1 : Int32} {x2 : Int32} {x3 : Int32} (h : zW G X 5 M n k 3 [(0, .ref a0), (1, .int x1), (2, .int x2), (3, .int x3), (4, .int 0)] []) : zW G X 5 M n k 0 [(0, .ref a0), (1, .int x1), (2, .int x2), (3, .int x3)] [] := by
  refine z_iconst (v := 0) O dX4_add_0 rfl ?_
  refine z_istore (lv' := [(4, .int 0), (0, .ref a0), (1, .int x1), (2, .int x2), (3, .int x3)]) O dX4_add_1 (by decide) rfl ?_
  exact z_to [1, 2, 3, 4, 0] rfl h
set_option maxRecDepth 100000 in
set_option maxHeartbeats 4000000 in
theorem b_X4_add_3 {G : zG} {X : zX} (O : zOK G X cX4_add 5 RX4 (some .boolean) "add") (hR : X.R = rm_X4_add) {M : zM} {n k : Nat} {a0 : Nat} {x1 : Int32} {x2 : Int32} {x3 : Int32} {x4 : Int32} (h : M.1 a0 = 5 ∧ ((M.2.2.1 a0 3) ≤ x4 → M.1 a0 = 5 ∧ ((M.2.2.1 a0 3) < 64 → M.1 a0 = 5 ∧ ∃ b1 : Nat, M.2.2.2 a0 0 = some b1 ∧ M.1 a0 = 5 ∧ M.1 b1 = 100 ∧ vp_in ((M.2.2.1 a0 3)) (M.2.1 b1) ∧ ∀ M2 : zM, M2 = zi M b1 (((M.2.2.1 a0 3)).toNatClampNeg) x1 → M2.1 a0 = 5 ∧ ∃ b3 : Nat, M2.2.2.2 a0 1 = some b3 ∧ M2.1 a0 = 5 ∧ M2.1 b3 = 100 ∧ vp_in ((M2.2.2.1 a0 3)) (M2.2.1 b3) ∧ ∀ M4 : zM, M4 = zi M2 b3 (((M2.2.2.1 a0 3)).toNatClampNeg) x2 → M4.1 a0 = 5 ∧ ∃ b5 : Nat, M4.2.2.2 a0 2 = some b5 ∧ M4.1 a0 = 5 ∧ M4.1 b5 = 100 ∧ vp_in ((M4.2.2.1 a0 3)) (M4.2.1 b5) ∧ ∀ M6 : zM, M6 = zi M4 b5 (((M4.2.2.1 a0 3)).toNatClampNeg) x3 → M6.1 a0 = 5 ∧ M6.1 a0 = 5 ∧ ∀ M7 : zM, M7 = zi M6 a0 3 ((M6.2.2.1 a0 3) + 1) → X.q M7 (some (.int 1))) ∧ (¬ (M.2.2.1 a0 3) < 64 → X.q M (some (.int 0)))) ∧ (¬ (M.2.2.1 a0 3) ≤ x4 → M.1 a0 = 5 ∧ ∃ b8 : Nat, M.2.2.2 a0 0 = some b8 ∧ M.1 b8 = 100 ∧ vp_in x4 (M.2.1 b8) ∧ (¬ (M.2.2.1 b8 x4.toNatClampNeg) = x1 → ∀ y9 : Int32, y9 = x4 + 1 → zW G X 5 M n k 3 [(0, .ref a0), (1, .int x1), (2, .int x2), (3, .int x3), (4, .int y9)] []) ∧ ((M.2.2.1 b8 x4.toNatClampNeg) = x1 → M.1 a0 = 5 ∧ ∃ b10 : Nat, M.2.2.2 a0 1 = some b10 ∧ M.1 b10 = 100 ∧ vp_in x4 (M.2.1 b10) ∧ (¬ (M.2.2.1 b10 x4.toNatClampNeg) = x2 → ∀ y11 : Int32, y11 = x4 + 1 → zW G X 5 M n k 3 [(0, .ref a0), (1, .int x1), (2, .int x2), (3, .int x3), (4, .int y11)] []) ∧ ((M.2.2.1 b10 x4.toNatClampNeg) = x2 → M.1 a0 = 5 ∧ ∃ b12 : Nat, M.2.2.2 a0 2 = some b12 ∧ M.1 b12 = 100 ∧ vp_in x4 (M.2.1 b12) ∧ ∀ M13 : zM, M13 = zi M b12 (x4.toNatClampNeg) x3 → X.q M13 (some (.int 1)))))) : zW G X 5 M n k 3 [(0, .ref a0), (1, .int x1), (2, .int x2), (3, .int x3), (4, .int x4)] [] := by
  refine z_iload O dX4_add_3 4 rfl ?_
  refine z_aload_n O dX4_add_5 rfl 0 rfl ?_
  obtain ⟨hk, h⟩ := h
  refine z_geti O zf_X4_21_4 dX4_add_6 hk ?_
  refine z_icmp_ge O 50 dX4_add_9 (by decide) (fun c => ?_) (fun c => ?_)
  · replace h := h.1 c
    refine z_aload_n O dX4_add_50 rfl 0 rfl ?_
    obtain ⟨hk, h⟩ := h
    refine z_geti O zf_X4_21_4 dX4_add_51 hk ?_
    refine z_bipush (v := 64) O dX4_add_54 rfl ?_
    refine z_icmp_lt O 61 dX4_add_56 (by decide) (fun c => ?_) (fun c => ?_)
    · replace h := h.1 c
      refine z_aload_n O dX4_add_61 rfl 0 rfl ?_
      obtain ⟨hk, b1, hr, h⟩ := h
      refine z_getr O zf_X4_9_4 dX4_add_62 hk hr ?_
      refine z_aload_n O dX4_add_65 rfl 0 rfl ?_
      obtain ⟨hk, h⟩ := h
      refine z_geti O zf_X4_21_4 dX4_add_66 hk ?_
      refine z_iload_n O dX4_add_69 rfl 1 rfl ?_
      obtain ⟨hk, hi, h⟩ := h
      refine z_iast O dX4_add_70 hk hi ?_
      generalize eM2 : zi M b1 (((M.2.2.1 a0 3)).toNatClampNeg) x1 = M2
      replace h := h M2 eM2.symm
      refine z_aload_n O dX4_add_71 rfl 0 rfl ?_
      obtain ⟨hk, b3, hr, h⟩ := h
      refine z_getr O zf_X4_15_4 dX4_add_72 hk hr ?_
      refine z_aload_n O dX4_add_75 rfl 0 rfl ?_
      obtain ⟨hk, h⟩ := h
      refine z_geti O zf_X4_21_4 dX4_add_76 hk ?_
      refine z_iload_n O dX4_add_79 rfl 2 rfl ?_
      obtain ⟨hk, hi, h⟩ := h
      refine z_iast O dX4_add_80 hk hi ?_
      generalize eM4 : zi M2 b3 (((M2.2.2.1 a0 3)).toNatClampNeg) x2 = M4
      replace h := h M4 eM4.symm
      refine z_aload_n O dX4_add_81 rfl 0 rfl ?_
      obtain ⟨hk, b5, hr, h⟩ := h
      refine z_getr O zf_X4_18_4 dX4_add_82 hk hr ?_
      refine z_aload_n O dX4_add_85 rfl 0 rfl ?_
      obtain ⟨hk, h⟩ := h
      refine z_geti O zf_X4_21_4 dX4_add_86 hk ?_
      refine z_iload_n O dX4_add_89 rfl 3 rfl ?_
      obtain ⟨hk, hi, h⟩ := h
      refine z_iast O dX4_add_90 hk hi ?_
      generalize eM6 : zi M4 b5 (((M4.2.2.1 a0 3)).toNatClampNeg) x3 = M6
      replace h := h M6 eM6.symm
      refine z_aload_n O dX4_add_91 rfl 0 rfl ?_
      refine z_dup O dX4_add_92 rfl ?_
      obtain ⟨hk, h⟩ := h
      refine z_geti O zf_X4_21_4 dX4_add_93 hk ?_
      refine z_iconst (v := 1) O dX4_add_96 rfl ?_
      refine z_iadd O dX4_add_97 ?_
      obtain ⟨hk, h⟩ := h
      refine z_puti O zp_X4_21_4 dX4_add_98 hk ?_
      generalize eM7 : zi M6 a0 3 ((M6.2.2.1 a0 3) + 1) = M7
      replace h := h M7 eM7.symm
      refine z_iconst (v := 1) O dX4_add_101 rfl ?_
      exact z_zret O dX4_add_102 (by decide) h
    · replace h := h.2 c
      refine z_iconst (v := 0) O dX4_add_59 rfl ?_
      exact z_zret O dX4_add_60 (by decide) h
  · replace h := h.2 c
    refine z_aload_n O dX4_add_12 rfl 0 rfl ?_
    obtain ⟨hk, b8, hr, h⟩ := h
    refine z_getr O zf_X4_9_4 dX4_add_13 hk hr ?_
    refine z_iload O dX4_add_16 4 rfl ?_
    obtain ⟨hk, hi, h⟩ := h
    refine z_iald O dX4_add_18 hk hi ?_
    refine z_iload_n O dX4_add_19 rfl 1 rfl ?_
    refine z_icmp_ne O 44 dX4_add_20 (by decide) (fun c => ?_) (fun c => ?_)
    · replace h := h.1 c
      obtain ⟨y9, ey9⟩ : ∃ y : Int32, y = x4 + 1 := ⟨_, rfl⟩
      replace h := h y9 ey9
      refine z_iinc (v := y9) (lv' := [(4, .int y9), (0, .ref a0), (1, .int x1), (2, .int x2), (3, .int x3)]) O dX4_add_44 (q := 4) rfl (by rw [ey9]; rfl) (by decide) rfl ?_
      refine z_goto O 3 dX4_add_47 (by decide) ?_
      exact z_to [1, 2, 3, 4, 0] rfl h
    · replace h := h.2 c
      refine z_aload_n O dX4_add_23 rfl 0 rfl ?_
      obtain ⟨hk, b10, hr, h⟩ := h
      refine z_getr O zf_X4_15_4 dX4_add_24 hk hr ?_
      refine z_iload O dX4_add_27 4 rfl ?_
      obtain ⟨hk, hi, h⟩ := h
      refine z_iald O dX4_add_29 hk hi ?_
      refine z_iload_n O dX4_add_30 rfl 2 rfl ?_
      refine z_icmp_ne O 44 dX4_add_31 (by decide) (fun c => ?_) (fun c => ?_)
      · replace h := h.1 c
        obtain ⟨y11, ey11⟩ : ∃ y : Int32, y = x4 + 1 := ⟨_, rfl⟩
        replace h := h y11 ey11
        refine z_iinc (v := y11) (lv' := [(4, .int y11), (0, .ref a0), (1, .int x1), (2, .int x2), (3, .int x3)]) O dX4_add_44 (q := 4) rfl (by rw [ey11]; rfl) (by decide) rfl ?_
        refine z_goto O 3 dX4_add_47 (by decide) ?_
        exact z_to [1, 2, 3, 4, 0] rfl h
      · replace h := h.2 c
        refine z_aload_n O dX4_add_34 rfl 0 rfl ?_
        obtain ⟨hk, b12, hr, h⟩ := h
        refine z_getr O zf_X4_18_4 dX4_add_35 hk hr ?_
        refine z_iload O dX4_add_38 4 rfl ?_
        refine z_iload_n O dX4_add_40 rfl 3 rfl ?_
        obtain ⟨hk, hi, h⟩ := h
        refine z_iast O dX4_add_41 hk hi ?_
        generalize eM13 : zi M b12 (x4.toNatClampNeg) x3 = M13
        replace h := h M13 eM13.symm
        refine z_iconst (v := 1) O dX4_add_42 rfl ?_
        exact z_zret O dX4_add_43 (by decide) h
set_option maxRecDepth 100000 in
set_option maxHeartbeats 4000000 in
theorem b_X10_init_0 {G : zG} {X : zX} (O : zOK G X cX10_init 1 RX10 none "<init>") (hR : X.R = rm_X10_init) {M : zM} {n k : Nat} {a0 : Nat} (h : n + 1 ≤ X.R.cells ∧ k + 23 ≤ X.R.slots ∧ ∀ q1 : Nat, M.1 q1 = 0 → ∀ M2 : zM, M2 = zn M q1 100 23 → M2.1 a0 = 10 ∧ ∀ M3 : zM, M3 = zr M2 a0 0 (some q1) → X.q M3 none) : zW G X 1 M n k 0 [(0, .ref a0)] [] := by
  refine z_aload_n O dX10_init_0 rfl 0 rfl ?_
  refine z_obj O zob_X10_3 zob_1 zob_2 dX10_init_1 (by rw [hR]; decide) (by rw [hR]; decide) ?_
  refine z_aload_n O dX10_init_4 rfl 0 rfl ?_
  refine z_bipush (v := 23) O dX10_init_5 rfl ?_
  obtain ⟨hn, hs, h⟩ := h
  refine z_newi (N := 23) O zac_int dX10_init_7 (by decide) (by decide) (by decide) hn hs (fun q1 fq1 => ?_)
  generalize eM2 : zn M q1 100 23 = M2
  replace h := h q1 fq1 M2 eM2.symm
  obtain ⟨hk, h⟩ := h
  refine z_putrF O zp_X10_9_9 dX10_init_9 hk ?_
  generalize eM3 : zr M2 a0 0 (some q1) = M3
  replace h := h M3 eM3.symm
  exact z_vret O dX10_init_12 h
set_option maxRecDepth 100000 in
set_option maxHeartbeats 4000000 in
theorem b_X7_init_0 {G : zG} {X : zX} (O : zOK G X cX7_init 3 RX7 none "<init>") (hR : X.R = rm_X7_init) {M : zM} {n k : Nat} {a0 : Nat} {a1 : Nat} (h : M.1 a0 = 8 ∧ ∀ M1 : zM, M1 = zr M a0 1 (some a1) → n + 1 ≤ X.R.cells ∧ k + 8 ≤ X.R.slots ∧ ∀ q2 : Nat, M1.1 q2 = 0 → ∀ M3 : zM, M3 = zn M1 q2 106 8 → M3.1 a0 = 8 ∧ ∀ M4 : zM, M4 = zr M3 a0 0 (some q2) → zW G X 3 M4 (n + 1) (k + 8) 20 [(0, .ref a0), (2, .int 0)] []) : zW G X 3 M n k 0 [(0, .ref a0), (1, .ref a1)] [] := by
  refine z_aload_n O dX7_init_0 rfl 0 rfl ?_
  refine z_obj O zob_X7_3 zob_1 zob_2 dX7_init_1 (by rw [hR]; decide) (by rw [hR]; decide) ?_
  refine z_aload_n O dX7_init_4 rfl 0 rfl ?_
  refine z_aload_n O dX7_init_5 rfl 1 rfl ?_
  obtain ⟨hk, h⟩ := h
  refine z_putrF O zp_X7_9_7 dX7_init_6 hk ?_
  generalize eM1 : zr M a0 1 (some a1) = M1
  replace h := h M1 eM1.symm
  refine z_aload_n O dX7_init_9 rfl 0 rfl ?_
  refine z_bipush (v := 8) O dX7_init_10 rfl ?_
  obtain ⟨hn, hs, h⟩ := h
  refine z_newr (t := 4) (N := 8) O rfl zcl_X7_15 (by decide) dX7_init_12 (by decide) (by decide) (by decide) hn hs (fun q2 fq2 => ?_)
  generalize eM3 : zn M1 q2 106 8 = M3
  replace h := h q2 fq2 M3 eM3.symm
  obtain ⟨hk, h⟩ := h
  refine z_putrF O zp_X7_17_7 dX7_init_15 hk ?_
  generalize eM4 : zr M3 a0 0 (some q2) = M4
  replace h := h M4 eM4.symm
  refine z_iconst (v := 0) O dX7_init_18 rfl ?_
  refine z_istore_n (lv' := [(2, .int 0), (0, .ref a0), (1, .ref a1)]) O dX7_init_19 rfl (by decide) rfl ?_
  exact z_to [1, 0] rfl h
set_option maxRecDepth 100000 in
set_option maxHeartbeats 4000000 in
theorem b_X7_init_20 {G : zG} {X : zX} (O : zOK G X cX7_init 3 RX7 none "<init>") (hR : X.R = rm_X7_init) {M : zM} {n k : Nat} {a0 : Nat} {x2 : Int32} (h : (8 ≤ x2 → X.q M none) ∧ (¬ 8 ≤ x2 → M.1 a0 = 8 ∧ ∃ b1 : Nat, M.2.2.2 a0 0 = some b1 ∧ n + 1 ≤ X.R.cells ∧ k + 5 ≤ X.R.slots ∧ ∀ q2 : Nat, M.1 q2 = 0 → ∀ M3 : zM, M3 = zn M q2 10 0 → (n + 1) + 1 ≤ X.R.cells ∧ (k + 5) + 23 ≤ X.R.slots ∧ zC G yX10_init cX10_init 1 none rm_X10_init M3 [.ref q2] (fun M4 v => v = none ∧ M4.1 b1 = 106 ∧ M4.1 q2 = 10 ∧ vp_in x2 (M4.2.1 b1) ∧ ∀ M5 : zM, M5 = zr M4 b1 (x2.toNatClampNeg) (some q2) → ∀ y6 : Int32, y6 = x2 + 1 → zW G X 3 M5 ((n + 1) + 1) ((k + 5) + 23) 20 [(0, .ref a0), (2, .int y6)] []))) : zW G X 3 M n k 20 [(0, .ref a0), (2, .int x2)] [] := by
  refine z_iload_n O dX7_init_20 rfl 1 rfl ?_
  refine z_bipush (v := 8) O dX7_init_21 rfl ?_
  refine z_icmp_ge O 45 dX7_init_23 (by decide) (fun c => ?_) (fun c => ?_)
  · replace h := h.1 c
    exact z_vret O dX7_init_45 h
  · replace h := h.2 c
    refine z_aload_n O dX7_init_26 rfl 0 rfl ?_
    obtain ⟨hk, b1, hr, h⟩ := h
    refine z_getr O zf_X7_17_7 dX7_init_27 hk hr ?_
    refine z_iload_n O dX7_init_30 rfl 1 rfl ?_
    obtain ⟨hn, hs, h⟩ := h
    refine z_new O zn_X7_15 dX7_init_31 hn hs (fun q2 fq2 => ?_)
    generalize eM3 : zn M q2 10 0 = M3
    replace h := h q2 fq2 M3 eM3.symm
    refine z_dup O dX7_init_34 rfl ?_
    obtain ⟨hn, hs, h⟩ := h
    refine z_callINk (As := []) O zc_X7_21 h rfl (zRm_of hR (by decide) (by decide)) (Nat.le_of_ble_eq_true rfl) dX7_init_35 (mc := 1) (ms := 23) rfl rfl hn hs rfl (fun M4 v h => ?_)
    obtain ⟨rfl, h⟩ := h
    obtain ⟨hk, hkv, hi, h⟩ := h
    refine z_ast (t := 4) (ci := 9) (C := RX10) (T := TX10) (N := 5) O rfl rfl (by decide) dX7_init_38 hk hkv hi ?_
    generalize eM5 : zr M4 b1 (x2.toNatClampNeg) (some q2) = M5
    replace h := h M5 eM5.symm
    obtain ⟨y6, ey6⟩ : ∃ y : Int32, y = x2 + 1 := ⟨_, rfl⟩
    replace h := h y6 ey6
    refine z_iinc (v := y6) (lv' := [(2, .int y6), (0, .ref a0)]) O dX7_init_39 (q := 1) rfl (by rw [ey6]; rfl) (by decide) rfl ?_
    refine z_goto O 20 dX7_init_42 (by decide) ?_
    exact z_to [1, 0] rfl h
set_option maxRecDepth 100000 in
set_option maxHeartbeats 4000000 in
theorem b_X5_init_0 {G : zG} {X : zX} (O : zOK G X cX5_init 4 RX5 none "<init>") (hR : X.R = rm_X5_init) {M : zM} {n k : Nat} {a0 : Nat} {x1 : Int32} {x2 : Int32} {a3 : Nat} (h : M.1 a0 = 6 ∧ ∀ M1 : zM, M1 = zi M a0 0 x1 → M1.1 a0 = 6 ∧ ∀ M2 : zM, M2 = zi M1 a0 5 x2 → n + 1 ≤ X.R.cells ∧ k + 3 ≤ X.R.slots ∧ ∀ q3 : Nat, M2.1 q3 = 0 → ∀ M4 : zM, M4 = zn M2 q3 8 0 → (n + 1) + 17 ≤ X.R.cells ∧ (k + 3) + 232 ≤ X.R.slots ∧ zC G yX7_init cX7_init 3 none rm_X7_init M4 [.ref q3, .ref a3] (fun M5 v => v = none ∧ M5.1 a0 = 6 ∧ ∀ M6 : zM, M6 = zr M5 a0 1 (some q3) → ((n + 1) + 17) + 1 ≤ X.R.cells ∧ ((k + 3) + 232) + 29 ≤ X.R.slots ∧ ∀ q7 : Nat, M6.1 q7 = 0 → ∀ M8 : zM, M8 = zn M6 q7 107 29 → M8.1 a0 = 6 ∧ ∀ M9 : zM, M9 = zr M8 a0 2 (some q7) → X.q M9 none)) : zW G X 4 M n k 0 [(0, .ref a0), (1, .int x1), (2, .int x2), (3, .ref a3)] [] := by
  refine z_aload_n O dX5_init_0 rfl 0 rfl ?_
  refine z_obj O zob_X5_3 zob_1 zob_2 dX5_init_1 (by rw [hR]; decide) (by rw [hR]; decide) ?_
  refine z_aload_n O dX5_init_4 rfl 0 rfl ?_
  refine z_iload_n O dX5_init_5 rfl 1 rfl ?_
  obtain ⟨hk, h⟩ := h
  refine z_putiF O zp_X5_9_5 dX5_init_6 hk ?_
  generalize eM1 : zi M a0 0 x1 = M1
  replace h := h M1 eM1.symm
  refine z_aload_n O dX5_init_9 rfl 0 rfl ?_
  refine z_iload_n O dX5_init_10 rfl 2 rfl ?_
  obtain ⟨hk, h⟩ := h
  refine z_puti O zp_X5_15_5 dX5_init_11 hk ?_
  generalize eM2 : zi M1 a0 5 x2 = M2
  replace h := h M2 eM2.symm
  refine z_aload_n O dX5_init_14 rfl 0 rfl ?_
  obtain ⟨hn, hs, h⟩ := h
  refine z_new O zn_X5_18 dX5_init_15 hn hs (fun q3 fq3 => ?_)
  generalize eM4 : zn M2 q3 8 0 = M4
  replace h := h q3 fq3 M4 eM4.symm
  refine z_dup O dX5_init_18 rfl ?_
  refine z_aload_n O dX5_init_19 rfl 3 rfl ?_
  obtain ⟨hn, hs, h⟩ := h
  refine z_callIk (As := [.ref a3]) O zc_X5_20 h rfl (zRm_of hR (by decide) (by decide)) (Nat.le_of_ble_eq_true rfl) dX5_init_20 (mc := 17) (ms := 232) rfl rfl hn hs rfl (fun M5 v h => ?_)
  obtain ⟨rfl, h⟩ := h
  obtain ⟨hk, h⟩ := h
  refine z_putrF O zp_X5_23_5 dX5_init_23 hk ?_
  generalize eM6 : zr M5 a0 1 (some q3) = M6
  replace h := h M6 eM6.symm
  refine z_aload_n O dX5_init_26 rfl 0 rfl ?_
  refine z_bipush (v := 29) O dX5_init_27 rfl ?_
  obtain ⟨hn, hs, h⟩ := h
  refine z_newr (t := 5) (N := 29) O rfl zcl_X5_27 (by decide) dX5_init_29 (by decide) (by decide) (by decide) hn hs (fun q7 fq7 => ?_)
  generalize eM8 : zn M6 q7 107 29 = M8
  replace h := h q7 fq7 M8 eM8.symm
  obtain ⟨hk, h⟩ := h
  refine z_putrF O zp_X5_29_5 dX5_init_32 hk ?_
  generalize eM9 : zr M8 a0 2 (some q7) = M9
  replace h := h M9 eM9.symm
  exact z_vret O dX5_init_35 h
set_option maxRecDepth 100000 in
set_option maxHeartbeats 4000000 in
theorem b_X11_init_0 {G : zG} {X : zX} (O : zOK G X cX11_init 1 RX11 none "<init>") (hR : X.R = rm_X11_init) {M : zM} {n k : Nat} {a0 : Nat} (h : n + 1 ≤ X.R.cells ∧ k + 7 ≤ X.R.slots ∧ ∀ q1 : Nat, M.1 q1 = 0 → ∀ M2 : zM, M2 = zn M q1 9 0 → zC G yX9_init cX9_init 1 none rm_X9_init M2 [.ref q1] (fun M3 v => v = none ∧ M3.1 a0 = 11 ∧ ∀ M4 : zM, M4 = zr M3 a0 0 (some q1) → (n + 1) + 1 ≤ X.R.cells ∧ (k + 7) + 6 ≤ X.R.slots ∧ ∀ q5 : Nat, M4.1 q5 = 0 → ∀ M6 : zM, M6 = zn M4 q5 102 6 → M6.1 a0 = 11 ∧ ∀ M7 : zM, M7 = zr M6 a0 1 (some q5) → ((n + 1) + 1) + 1 ≤ X.R.cells ∧ ((k + 7) + 6) + 24 ≤ X.R.slots ∧ ∀ q8 : Nat, M7.1 q8 = 0 → ∀ M9 : zM, M9 = zn M7 q8 103 24 → M9.1 a0 = 11 ∧ ∀ M10 : zM, M10 = zr M9 a0 2 (some q8) → (((n + 1) + 1) + 1) + 1 ≤ X.R.cells ∧ (((k + 7) + 6) + 24) + 5 ≤ X.R.slots ∧ ∀ q11 : Nat, M10.1 q11 = 0 → ∀ M12 : zM, M12 = zn M10 q11 104 5 → M12.1 a0 = 11 ∧ ∀ M13 : zM, M13 = zr M12 a0 3 (some q11) → ((((n + 1) + 1) + 1) + 1) + 1 ≤ X.R.cells ∧ ((((k + 7) + 6) + 24) + 5) + 10 ≤ X.R.slots ∧ ∀ q14 : Nat, M13.1 q14 = 0 → ∀ M15 : zM, M15 = zn M13 q14 105 10 → M15.1 a0 = 11 ∧ ∀ M16 : zM, M16 = zr M15 a0 4 (some q14) → (((((n + 1) + 1) + 1) + 1) + 1) + 1 ≤ X.R.cells ∧ (((((k + 7) + 6) + 24) + 5) + 10) + 4 ≤ X.R.slots ∧ ∀ q17 : Nat, M16.1 q17 = 0 → ∀ M18 : zM, M18 = zn M16 q17 5 0 → ((((((n + 1) + 1) + 1) + 1) + 1) + 1) + 3 ≤ X.R.cells ∧ ((((((k + 7) + 6) + 24) + 5) + 10) + 4) + 192 ≤ X.R.slots ∧ zC G yX4_init cX4_init 1 none rm_X4_init M18 [.ref q17] (fun M19 v => v = none ∧ M19.1 a0 = 11 ∧ ∀ M20 : zM, M20 = zr M19 a0 5 (some q17) → (((((((n + 1) + 1) + 1) + 1) + 1) + 1) + 3) + 1 ≤ X.R.cells ∧ (((((((k + 7) + 6) + 24) + 5) + 10) + 4) + 192) + 60 ≤ X.R.slots ∧ ∀ q21 : Nat, M20.1 q21 = 0 → ∀ M22 : zM, M22 = zn M20 q21 100 60 → M22.1 a0 = 11 ∧ ∀ M23 : zM, M23 = zr M22 a0 6 (some q21) → ((((((((n + 1) + 1) + 1) + 1) + 1) + 1) + 3) + 1) + 1 ≤ X.R.cells ∧ ((((((((k + 7) + 6) + 24) + 5) + 10) + 4) + 192) + 60) + 5 ≤ X.R.slots ∧ ∀ q24 : Nat, M23.1 q24 = 0 → ∀ M25 : zM, M25 = zn M23 q24 10 0 → (((((((((n + 1) + 1) + 1) + 1) + 1) + 1) + 3) + 1) + 1) + 1 ≤ X.R.cells ∧ (((((((((k + 7) + 6) + 24) + 5) + 10) + 4) + 192) + 60) + 5) + 23 ≤ X.R.slots ∧ zC G yX10_init cX10_init 1 none rm_X10_init M25 [.ref q24] (fun M26 v => v = none ∧ M26.1 a0 = 11 ∧ ∀ M27 : zM, M27 = zr M26 a0 7 (some q24) → ((((((((((n + 1) + 1) + 1) + 1) + 1) + 1) + 3) + 1) + 1) + 1) + 1 ≤ X.R.cells ∧ ((((((((((k + 7) + 6) + 24) + 5) + 10) + 4) + 192) + 60) + 5) + 23) + 5 ≤ X.R.slots ∧ ∀ q28 : Nat, M27.1 q28 = 0 → ∀ M29 : zM, M29 = zn M27 q28 10 0 → (((((((((((n + 1) + 1) + 1) + 1) + 1) + 1) + 3) + 1) + 1) + 1) + 1) + 1 ≤ X.R.cells ∧ (((((((((((k + 7) + 6) + 24) + 5) + 10) + 4) + 192) + 60) + 5) + 23) + 5) + 23 ≤ X.R.slots ∧ zC G yX10_init cX10_init 1 none rm_X10_init M29 [.ref q28] (fun M30 v => v = none ∧ M30.1 a0 = 11 ∧ ∀ M31 : zM, M31 = zr M30 a0 8 (some q28) → M31.1 a0 = 11 ∧ ∀ M32 : zM, M32 = zi M31 a0 13 (-1) → M32.1 a0 = 11 ∧ ∀ M33 : zM, M33 = zi M32 a0 14 0 → X.q M33 none))))) : zW G X 1 M n k 0 [(0, .ref a0)] [] := by
  refine z_aload_n O dX11_init_0 rfl 0 rfl ?_
  refine z_obj O zob_X11_1 zob_1 zob_2 dX11_init_1 (by rw [hR]; decide) (by rw [hR]; decide) ?_
  refine z_aload_n O dX11_init_4 rfl 0 rfl ?_
  obtain ⟨hn, hs, h⟩ := h
  refine z_new O zn_X11_7 dX11_init_5 hn hs (fun q1 fq1 => ?_)
  generalize eM2 : zn M q1 9 0 = M2
  replace h := h q1 fq1 M2 eM2.symm
  refine z_dup O dX11_init_8 rfl ?_
  refine z_callIN0 (As := []) O zc_X11_9 h rfl (zRm_of hR (by decide) (by decide)) (Nat.le_of_ble_eq_true rfl) dX11_init_9 rfl rfl rfl (fun M3 v h => ?_)
  obtain ⟨rfl, h⟩ := h
  obtain ⟨hk, h⟩ := h
  refine z_putrF O zp_X11_10_10 dX11_init_12 hk ?_
  generalize eM4 : zr M3 a0 0 (some q1) = M4
  replace h := h M4 eM4.symm
  refine z_aload_n O dX11_init_15 rfl 0 rfl ?_
  refine z_bipush (v := 6) O dX11_init_16 rfl ?_
  obtain ⟨hn, hs, h⟩ := h
  refine z_newr (t := 0) (N := 6) O rfl zcl_X11_16 (by decide) dX11_init_18 (by decide) (by decide) (by decide) hn hs (fun q5 fq5 => ?_)
  generalize eM6 : zn M4 q5 102 6 = M6
  replace h := h q5 fq5 M6 eM6.symm
  obtain ⟨hk, h⟩ := h
  refine z_putrF O zp_X11_18_10 dX11_init_21 hk ?_
  generalize eM7 : zr M6 a0 1 (some q5) = M7
  replace h := h M7 eM7.symm
  refine z_aload_n O dX11_init_24 rfl 0 rfl ?_
  refine z_bipush (v := 24) O dX11_init_25 rfl ?_
  obtain ⟨hn, hs, h⟩ := h
  refine z_newr (t := 1) (N := 24) O rfl zcl_X11_22 (by decide) dX11_init_27 (by decide) (by decide) (by decide) hn hs (fun q8 fq8 => ?_)
  generalize eM9 : zn M7 q8 103 24 = M9
  replace h := h q8 fq8 M9 eM9.symm
  obtain ⟨hk, h⟩ := h
  refine z_putrF O zp_X11_24_10 dX11_init_30 hk ?_
  generalize eM10 : zr M9 a0 2 (some q8) = M10
  replace h := h M10 eM10.symm
  refine z_aload_n O dX11_init_33 rfl 0 rfl ?_
  refine z_iconst (v := 5) O dX11_init_34 rfl ?_
  obtain ⟨hn, hs, h⟩ := h
  refine z_newr (t := 2) (N := 5) O rfl zcl_X11_28 (by decide) dX11_init_35 (by decide) (by decide) (by decide) hn hs (fun q11 fq11 => ?_)
  generalize eM12 : zn M10 q11 104 5 = M12
  replace h := h q11 fq11 M12 eM12.symm
  obtain ⟨hk, h⟩ := h
  refine z_putrF O zp_X11_30_10 dX11_init_38 hk ?_
  generalize eM13 : zr M12 a0 3 (some q11) = M13
  replace h := h M13 eM13.symm
  refine z_aload_n O dX11_init_41 rfl 0 rfl ?_
  refine z_bipush (v := 10) O dX11_init_42 rfl ?_
  obtain ⟨hn, hs, h⟩ := h
  refine z_newr (t := 3) (N := 10) O rfl zcl_X11_34 (by decide) dX11_init_44 (by decide) (by decide) (by decide) hn hs (fun q14 fq14 => ?_)
  generalize eM15 : zn M13 q14 105 10 = M15
  replace h := h q14 fq14 M15 eM15.symm
  obtain ⟨hk, h⟩ := h
  refine z_putrF O zp_X11_36_10 dX11_init_47 hk ?_
  generalize eM16 : zr M15 a0 4 (some q14) = M16
  replace h := h M16 eM16.symm
  refine z_aload_n O dX11_init_50 rfl 0 rfl ?_
  obtain ⟨hn, hs, h⟩ := h
  refine z_new O zn_X11_40 dX11_init_51 hn hs (fun q17 fq17 => ?_)
  generalize eM18 : zn M16 q17 5 0 = M18
  replace h := h q17 fq17 M18 eM18.symm
  refine z_dup O dX11_init_54 rfl ?_
  obtain ⟨hn, hs, h⟩ := h
  refine z_callINk (As := []) O zc_X11_42 h rfl (zRm_of hR (by decide) (by decide)) (Nat.le_of_ble_eq_true rfl) dX11_init_55 (mc := 3) (ms := 192) rfl rfl hn hs rfl (fun M19 v h => ?_)
  obtain ⟨rfl, h⟩ := h
  obtain ⟨hk, h⟩ := h
  refine z_putrF O zp_X11_43_10 dX11_init_58 hk ?_
  generalize eM20 : zr M19 a0 5 (some q17) = M20
  replace h := h M20 eM20.symm
  refine z_aload_n O dX11_init_61 rfl 0 rfl ?_
  refine z_bipush (v := 60) O dX11_init_62 rfl ?_
  obtain ⟨hn, hs, h⟩ := h
  refine z_newi (N := 60) O zac_int dX11_init_64 (by decide) (by decide) (by decide) hn hs (fun q21 fq21 => ?_)
  generalize eM22 : zn M20 q21 100 60 = M22
  replace h := h q21 fq21 M22 eM22.symm
  obtain ⟨hk, h⟩ := h
  refine z_putrF O zp_X11_47_10 dX11_init_66 hk ?_
  generalize eM23 : zr M22 a0 6 (some q21) = M23
  replace h := h M23 eM23.symm
  refine z_aload_n O dX11_init_69 rfl 0 rfl ?_
  obtain ⟨hn, hs, h⟩ := h
  refine z_new O zn_X11_51 dX11_init_70 hn hs (fun q24 fq24 => ?_)
  generalize eM25 : zn M23 q24 10 0 = M25
  replace h := h q24 fq24 M25 eM25.symm
  refine z_dup O dX11_init_73 rfl ?_
  obtain ⟨hn, hs, h⟩ := h
  refine z_callINk (As := []) O zc_X11_53 h rfl (zRm_of hR (by decide) (by decide)) (Nat.le_of_ble_eq_true rfl) dX11_init_74 (mc := 1) (ms := 23) rfl rfl hn hs rfl (fun M26 v h => ?_)
  obtain ⟨rfl, h⟩ := h
  obtain ⟨hk, h⟩ := h
  refine z_putrF O zp_X11_54_10 dX11_init_77 hk ?_
  generalize eM27 : zr M26 a0 7 (some q24) = M27
  replace h := h M27 eM27.symm
  refine z_aload_n O dX11_init_80 rfl 0 rfl ?_
  obtain ⟨hn, hs, h⟩ := h
  refine z_new O zn_X11_51 dX11_init_81 hn hs (fun q28 fq28 => ?_)
  generalize eM29 : zn M27 q28 10 0 = M29
  replace h := h q28 fq28 M29 eM29.symm
  refine z_dup O dX11_init_84 rfl ?_
  obtain ⟨hn, hs, h⟩ := h
  refine z_callINk (As := []) O zc_X11_53 h rfl (zRm_of hR (by decide) (by decide)) (Nat.le_of_ble_eq_true rfl) dX11_init_85 (mc := 1) (ms := 23) rfl rfl hn hs rfl (fun M30 v h => ?_)
  obtain ⟨rfl, h⟩ := h
  obtain ⟨hk, h⟩ := h
  refine z_putrF O zp_X11_58_10 dX11_init_88 hk ?_
  generalize eM31 : zr M30 a0 8 (some q28) = M31
  replace h := h M31 eM31.symm
  refine z_aload_n O dX11_init_91 rfl 0 rfl ?_
  refine z_iconst (v := (-1)) O dX11_init_92 rfl ?_
  obtain ⟨hk, h⟩ := h
  refine z_puti O zp_X11_61_10 dX11_init_93 hk ?_
  generalize eM32 : zi M31 a0 13 (-1) = M32
  replace h := h M32 eM32.symm
  refine z_aload_n O dX11_init_96 rfl 0 rfl ?_
  refine z_iconst (v := 0) O dX11_init_97 rfl ?_
  obtain ⟨hk, h⟩ := h
  refine z_puti O zp_X11_65_10 dX11_init_98 hk ?_
  generalize eM33 : zi M32 a0 14 0 = M33
  replace h := h M33 eM33.symm
  exact z_vret O dX11_init_101 h
set_option maxRecDepth 100000 in
set_option maxHeartbeats 4000000 in
theorem b_X11_isWithin_0 {G : zG} {X : zX} (O : zOK G X cX11_isWithin 3 RX11 (some .boolean) "isWithin") (hR : X.R = rm_X11_isWithin) {M : zM} {n k : Nat} {x0 : Int32} {x1 : Int32} {x2 : Int32} (h : (x0 < x1 → X.q M (some (.int 0))) ∧ (¬ x0 < x1 → (x2 < x0 → X.q M (some (.int 0))) ∧ (¬ x2 < x0 → X.q M (some (.int 1))))) : zW G X 3 M n k 0 [(0, .int x0), (1, .int x1), (2, .int x2)] [] := by
  refine z_iload_n O dX11_isWithin_0 rfl 0 rfl ?_
  refine z_iload_n O dX11_isWithin_1 rfl 1 rfl ?_
  refine z_icmp_lt O 14 dX11_isWithin_2 (by decide) (fun c => ?_) (fun c => ?_)
  · replace h := h.1 c
    refine z_iconst (v := 0) O dX11_isWithin_14 rfl ?_
    exact z_zret O dX11_isWithin_15 (by decide) h
  · replace h := h.2 c
    refine z_iload_n O dX11_isWithin_5 rfl 0 rfl ?_
    refine z_iload_n O dX11_isWithin_6 rfl 2 rfl ?_
    refine z_icmp_gt O 14 dX11_isWithin_7 (by decide) (fun c => ?_) (fun c => ?_)
    · replace h := h.1 c
      refine z_iconst (v := 0) O dX11_isWithin_14 rfl ?_
      exact z_zret O dX11_isWithin_15 (by decide) h
    · replace h := h.2 c
      refine z_iconst (v := 1) O dX11_isWithin_10 rfl ?_
      refine z_goto O 15 dX11_isWithin_11 (by decide) ?_
      exact z_zret O dX11_isWithin_15 (by decide) h
set_option maxRecDepth 100000 in
set_option maxHeartbeats 4000000 in
theorem b_X11_line_0 {G : zG} {X : zX} (O : zOK G X cX11_line 2 RX11 (some .int) "line") (hR : X.R = rm_X11_line) {M : zM} {n k : Nat} {a0 : Nat} {x1 : Int32} (h : M.1 a0 = 11 ∧ (6 ≤ (M.2.2.1 a0 9) → X.q M (some (.int (-1)))) ∧ (¬ 6 ≤ (M.2.2.1 a0 9) → zC G yX11_isWithin cX11_isWithin 3 (some .boolean) rm_X11_isWithin M [.int x1, .int 0, .int 255] (fun M1 v => ∃ r2 : Int32, v = some (.int r2) ∧ (r2 = 0 → X.q M1 (some (.int (-1)))) ∧ (¬ r2 = 0 → M1.1 a0 = 11 ∧ zC G yX11_lineOfNumber cX11_lineOfNumber 3 (some .int) rm_X11_lineOfNumber M1 [.ref a0, .int x1] (fun M3 v => ∃ r4 : Int32, v = some (.int r4) ∧ (r4 = (-1) → M3.1 a0 = 11 ∧ ∃ b5 : Nat, M3.2.2.2 a0 1 = some b5 ∧ M3.1 a0 = 11 ∧ n + 1 ≤ X.R.cells ∧ k + 6 ≤ X.R.slots ∧ ∀ q6 : Nat, M3.1 q6 = 0 → ∀ M7 : zM, M7 = zn M3 q6 6 0 → M7.1 a0 = 11 ∧ M7.1 a0 = 11 ∧ ∃ b8 : Nat, M7.2.2.2 a0 0 = some b8 ∧ (n + 1) + 19 ≤ X.R.cells ∧ (k + 6) + 264 ≤ X.R.slots ∧ zC G yX5_init cX5_init 4 none rm_X5_init M7 [.ref q6, .int x1, .int (1 <<< ((M7.2.2.1 a0 9) &&& 31)), .ref b8] (fun M9 v => v = none ∧ M9.1 b5 = 102 ∧ M9.1 q6 = 6 ∧ vp_in ((M3.2.2.1 a0 9)) (M9.2.1 b5) ∧ ∀ M10 : zM, M10 = zr M9 b5 (((M3.2.2.1 a0 9)).toNatClampNeg) (some q6) → M10.1 a0 = 11 ∧ M10.1 a0 = 11 ∧ ∀ M11 : zM, M11 = zi M10 a0 9 ((M10.2.2.1 a0 9) + 1) → M11.1 a0 = 11 ∧ X.q M11 (some (.int ((M11.2.2.1 a0 9) - 1))))) ∧ (¬ r4 = (-1) → X.q M3 (some (.int (-1))))))))) : zW G X 2 M n k 0 [(0, .ref a0), (1, .int x1)] [] := by
  refine z_aload_n O dX11_line_0 rfl 0 rfl ?_
  obtain ⟨hk, h⟩ := h
  refine z_geti O zf_X11_68_10 dX11_line_1 hk ?_
  refine z_bipush (v := 6) O dX11_line_4 rfl ?_
  refine z_icmp_ge O 29 dX11_line_6 (by decide) (fun c => ?_) (fun c => ?_)
  · replace h := h.1 c
    refine z_iconst (v := (-1)) O dX11_line_29 rfl ?_
    exact z_iret O dX11_line_30 h
  · replace h := h.2 c
    refine z_iload_n O dX11_line_9 rfl 1 rfl ?_
    refine z_iconst (v := 0) O dX11_line_10 rfl ?_
    refine z_sipush (v := 255) O dX11_line_11 rfl ?_
    refine z_callS0 (As := [.int x1, .int 0, .int 255]) O zc_X11_71 h rfl (zRm_of hR (by decide) (by decide)) (Nat.le_of_ble_eq_true rfl) dX11_line_14 rfl rfl rfl (fun M1 v h => ?_)
    obtain ⟨r2, rfl, h⟩ := h
    refine z_if_eq O 29 dX11_line_17 (by decide) (fun c => ?_) (fun c => ?_)
    · replace h := h.1 c
      refine z_iconst (v := (-1)) O dX11_line_29 rfl ?_
      exact z_iret O dX11_line_30 h
    · replace h := h.2 c
      refine z_aload_n O dX11_line_20 rfl 0 rfl ?_
      refine z_iload_n O dX11_line_21 rfl 1 rfl ?_
      obtain ⟨hk, h⟩ := h
      refine z_callV0 (As := [.int x1]) O zc_X11_75 h hk rfl (zRm_of hR (by decide) (by decide)) (Nat.le_of_ble_eq_true rfl) dX11_line_22 rfl rfl rfl (fun M3 v h => ?_)
      obtain ⟨r4, rfl, h⟩ := h
      refine z_iconst (v := (-1)) O dX11_line_25 rfl ?_
      refine z_icmp_eq O 31 dX11_line_26 (by decide) (fun c => ?_) (fun c => ?_)
      · replace h := h.1 c
        refine z_aload_n O dX11_line_31 rfl 0 rfl ?_
        obtain ⟨hk, b5, hr, h⟩ := h
        refine z_getr O zf_X11_18_10 dX11_line_32 hk hr ?_
        refine z_aload_n O dX11_line_35 rfl 0 rfl ?_
        obtain ⟨hk, h⟩ := h
        refine z_geti O zf_X11_68_10 dX11_line_36 hk ?_
        obtain ⟨hn, hs, h⟩ := h
        refine z_new O zn_X11_16 dX11_line_39 hn hs (fun q6 fq6 => ?_)
        generalize eM7 : zn M3 q6 6 0 = M7
        replace h := h q6 fq6 M7 eM7.symm
        refine z_dup O dX11_line_42 rfl ?_
        refine z_iload_n O dX11_line_43 rfl 1 rfl ?_
        refine z_iconst (v := 1) O dX11_line_44 rfl ?_
        refine z_aload_n O dX11_line_45 rfl 0 rfl ?_
        obtain ⟨hk, h⟩ := h
        refine z_geti O zf_X11_68_10 dX11_line_46 hk ?_
        refine z_ishl O dX11_line_49 ?_
        refine z_aload_n O dX11_line_50 rfl 0 rfl ?_
        obtain ⟨hk, b8, hr, h⟩ := h
        refine z_getr O zf_X11_10_10 dX11_line_51 hk hr ?_
        obtain ⟨hn, hs, h⟩ := h
        refine z_callIk (As := [.int x1, .int (1 <<< ((M7.2.2.1 a0 9) &&& 31)), .ref b8]) O zc_X11_79 h rfl (zRm_of hR (by decide) (by decide)) (Nat.le_of_ble_eq_true rfl) dX11_line_54 (mc := 19) (ms := 264) rfl rfl hn hs rfl (fun M9 v h => ?_)
        obtain ⟨rfl, h⟩ := h
        obtain ⟨hk, hkv, hi, h⟩ := h
        refine z_ast (t := 0) (ci := 5) (C := RX5) (T := TX5) (N := 6) O rfl rfl (by decide) dX11_line_57 hk hkv hi ?_
        generalize eM10 : zr M9 b5 (((M3.2.2.1 a0 9)).toNatClampNeg) (some q6) = M10
        replace h := h M10 eM10.symm
        refine z_aload_n O dX11_line_58 rfl 0 rfl ?_
        refine z_dup O dX11_line_59 rfl ?_
        obtain ⟨hk, h⟩ := h
        refine z_geti O zf_X11_68_10 dX11_line_60 hk ?_
        refine z_iconst (v := 1) O dX11_line_63 rfl ?_
        refine z_iadd O dX11_line_64 ?_
        obtain ⟨hk, h⟩ := h
        refine z_puti O zp_X11_68_10 dX11_line_65 hk ?_
        generalize eM11 : zi M10 a0 9 ((M10.2.2.1 a0 9) + 1) = M11
        replace h := h M11 eM11.symm
        refine z_aload_n O dX11_line_68 rfl 0 rfl ?_
        obtain ⟨hk, h⟩ := h
        refine z_geti O zf_X11_68_10 dX11_line_69 hk ?_
        refine z_iconst (v := 1) O dX11_line_72 rfl ?_
        refine z_isub O dX11_line_73 ?_
        exact z_iret O dX11_line_74 h
      · replace h := h.2 c
        refine z_iconst (v := (-1)) O dX11_line_29 rfl ?_
        exact z_iret O dX11_line_30 h
set_option maxRecDepth 100000 in
set_option maxHeartbeats 4000000 in
theorem b_X11_lineOfNumber_0 {G : zG} {X : zX} (O : zOK G X cX11_lineOfNumber 3 RX11 (some .int) "lineOfNumber") (hR : X.R = rm_X11_lineOfNumber) {M : zM} {n k : Nat} {a0 : Nat} {x1 : Int32} (h : zW G X 3 M n k 2 [(0, .ref a0), (1, .int x1), (2, .int 0)] []) : zW G X 3 M n k 0 [(0, .ref a0), (1, .int x1)] [] := by
  refine z_iconst (v := 0) O dX11_lineOfNumber_0 rfl ?_
  refine z_istore_n (lv' := [(2, .int 0), (0, .ref a0), (1, .int x1)]) O dX11_lineOfNumber_1 rfl (by decide) rfl ?_
  exact z_to [1, 2, 0] rfl h
set_option maxRecDepth 100000 in
set_option maxHeartbeats 4000000 in
theorem b_X11_lineOfNumber_2 {G : zG} {X : zX} (O : zOK G X cX11_lineOfNumber 3 RX11 (some .int) "lineOfNumber") (hR : X.R = rm_X11_lineOfNumber) {M : zM} {n k : Nat} {a0 : Nat} {x1 : Int32} {x2 : Int32} (h : M.1 a0 = 11 ∧ ((M.2.2.1 a0 9) ≤ x2 → X.q M (some (.int (-1)))) ∧ (¬ (M.2.2.1 a0 9) ≤ x2 → M.1 a0 = 11 ∧ ∃ b1 : Nat, M.2.2.2 a0 1 = some b1 ∧ M.1 b1 = 102 ∧ vp_in x2 (M.2.1 b1) ∧ ∃ b2 : Nat, M.2.2.2 b1 x2.toNatClampNeg = some b2 ∧ M.1 b2 = 6 ∧ (¬ (M.2.2.1 b2 0) = x1 → ∀ y3 : Int32, y3 = x2 + 1 → zW G X 3 M n k 2 [(0, .ref a0), (1, .int x1), (2, .int y3)] []) ∧ ((M.2.2.1 b2 0) = x1 → X.q M (some (.int x2))))) : zW G X 3 M n k 2 [(0, .ref a0), (1, .int x1), (2, .int x2)] [] := by
  refine z_iload_n O dX11_lineOfNumber_2 rfl 2 rfl ?_
  refine z_aload_n O dX11_lineOfNumber_3 rfl 0 rfl ?_
  obtain ⟨hk, h⟩ := h
  refine z_geti O zf_X11_68_10 dX11_lineOfNumber_4 hk ?_
  refine z_icmp_ge O 31 dX11_lineOfNumber_7 (by decide) (fun c => ?_) (fun c => ?_)
  · replace h := h.1 c
    refine z_iconst (v := (-1)) O dX11_lineOfNumber_31 rfl ?_
    exact z_iret O dX11_lineOfNumber_32 h
  · replace h := h.2 c
    refine z_aload_n O dX11_lineOfNumber_10 rfl 0 rfl ?_
    obtain ⟨hk, b1, hr, h⟩ := h
    refine z_getr O zf_X11_18_10 dX11_lineOfNumber_11 hk hr ?_
    refine z_iload_n O dX11_lineOfNumber_14 rfl 2 rfl ?_
    obtain ⟨hk, hi, b2, hr, h⟩ := h
    refine z_ald (t := 0) O rfl dX11_lineOfNumber_15 hk hi hr ?_
    obtain ⟨hk, h⟩ := h
    refine z_geti O zf_X11_89_5 dX11_lineOfNumber_16 hk ?_
    refine z_iload_n O dX11_lineOfNumber_19 rfl 1 rfl ?_
    refine z_icmp_ne O 25 dX11_lineOfNumber_20 (by decide) (fun c => ?_) (fun c => ?_)
    · replace h := h.1 c
      obtain ⟨y3, ey3⟩ : ∃ y : Int32, y = x2 + 1 := ⟨_, rfl⟩
      replace h := h y3 ey3
      refine z_iinc (v := y3) (lv' := [(2, .int y3), (0, .ref a0), (1, .int x1)]) O dX11_lineOfNumber_25 (q := 2) rfl (by rw [ey3]; rfl) (by decide) rfl ?_
      refine z_goto O 2 dX11_lineOfNumber_28 (by decide) ?_
      exact z_to [1, 2, 0] rfl h
    · replace h := h.2 c
      refine z_iload_n O dX11_lineOfNumber_23 rfl 2 rfl ?_
      exact z_iret O dX11_lineOfNumber_24 h
set_option maxRecDepth 100000 in
set_option maxHeartbeats 4000000 in
theorem b_X11_lineAt_0 {G : zG} {X : zX} (O : zOK G X cX11_lineAt 2 RX11 (some (.object "HouseWires$Line")) "lineAt") (hR : X.R = rm_X11_lineAt) {M : zM} {n k : Nat} {a0 : Nat} {x1 : Int32} (h : M.1 a0 = 11 ∧ zC G yX11_isWithin cX11_isWithin 3 (some .boolean) rm_X11_isWithin M [.int x1, .int 0, .int ((M.2.2.1 a0 9) - 1)] (fun M1 v => ∃ r2 : Int32, v = some (.int r2) ∧ (r2 = 0 → X.q M1 (some .null)) ∧ (¬ r2 = 0 → M1.1 a0 = 11 ∧ ∃ b3 : Nat, M1.2.2.2 a0 1 = some b3 ∧ M1.1 b3 = 102 ∧ vp_in x1 (M1.2.1 b3) ∧ ∃ b4 : Nat, M1.2.2.2 b3 x1.toNatClampNeg = some b4 ∧ X.q M1 (some (.ref b4))))) : zW G X 2 M n k 0 [(0, .ref a0), (1, .int x1)] [] := by
  refine z_iload_n O dX11_lineAt_0 rfl 1 rfl ?_
  refine z_iconst (v := 0) O dX11_lineAt_1 rfl ?_
  refine z_aload_n O dX11_lineAt_2 rfl 0 rfl ?_
  obtain ⟨hk, h⟩ := h
  refine z_geti O zf_X11_68_10 dX11_lineAt_3 hk ?_
  refine z_iconst (v := 1) O dX11_lineAt_6 rfl ?_
  refine z_isub O dX11_lineAt_7 ?_
  refine z_callS0 (As := [.int x1, .int 0, .int ((M.2.2.1 a0 9) - 1)]) O zc_X11_71 h rfl (zRm_of hR (by decide) (by decide)) (Nat.le_of_ble_eq_true rfl) dX11_lineAt_8 rfl rfl rfl (fun M1 v h => ?_)
  obtain ⟨r2, rfl, h⟩ := h
  refine z_if_eq O 23 dX11_lineAt_11 (by decide) (fun c => ?_) (fun c => ?_)
  · replace h := h.1 c
    refine z_null O dX11_lineAt_23 ?_
    exact z_aretN O dX11_lineAt_24 h
  · replace h := h.2 c
    refine z_aload_n O dX11_lineAt_14 rfl 0 rfl ?_
    obtain ⟨hk, b3, hr, h⟩ := h
    refine z_getr O zf_X11_18_10 dX11_lineAt_15 hk hr ?_
    refine z_iload_n O dX11_lineAt_18 rfl 1 rfl ?_
    obtain ⟨hk, hi, b4, hr, h⟩ := h
    refine z_ald (t := 0) O rfl dX11_lineAt_19 hk hi hr ?_
    refine z_goto O 24 dX11_lineAt_20 (by decide) ?_
    exact z_aret O dX11_lineAt_24 h
set_option maxRecDepth 100000 in
set_option maxHeartbeats 4000000 in
theorem b_X11_device_0 {G : zG} {X : zX} (O : zOK G X cX11_device 8 RX11 (some .int) "device") (hR : X.R = rm_X11_device) {M : zM} {n k : Nat} {a0 : Nat} {x1 : Int32} {x2 : Int32} (h : M.1 a0 = 11 ∧ zC G yX11_lineAt cX11_lineAt 2 (some (.object "HouseWires$Line")) rm_X11_lineAt M [.ref a0, .int x1] (fun M1 v => (v = some .null ∧ M1.1 a0 = 11 ∧ (24 ≤ (M1.2.2.1 a0 10) → X.q M1 (some (.int (-1)))) ∧ (¬ 24 ≤ (M1.2.2.1 a0 10) → X.q M1 (some (.int (-1))))) ∨ ∃ b2 : Nat, v = some (.ref b2) ∧ M1.1 a0 = 11 ∧ (24 ≤ (M1.2.2.1 a0 10) → X.q M1 (some (.int (-1)))) ∧ (¬ 24 ≤ (M1.2.2.1 a0 10) → zC G yX11_isWithin cX11_isWithin 3 (some .boolean) rm_X11_isWithin M1 [.int x2, .int 1, .int 255] (fun M3 v => ∃ r4 : Int32, v = some (.int r4) ∧ (¬ r4 = 0 → M3.1 b2 = 6 ∧ ∀ y5 : Int32, y5 = ((256 * (M3.2.2.1 b2 0)) + x2) → M3.1 a0 = 11 ∧ zC G yX11_hasDeviceOf cX11_hasDeviceOf 3 (some .boolean) rm_X11_hasDeviceOf M3 [.ref a0, .int y5] (fun M6 v => ∃ r7 : Int32, v = some (.int r7) ∧ (r7 = 0 → n + 1 ≤ X.R.cells ∧ k + 3 ≤ X.R.slots ∧ ∀ q8 : Nat, M6.1 q8 = 0 → ∀ M9 : zM, M9 = zn M6 q8 8 0 → M9.1 a0 = 11 ∧ ∃ b10 : Nat, M9.2.2.2 a0 0 = some b10 ∧ (n + 1) + 17 ≤ X.R.cells ∧ (k + 3) + 232 ≤ X.R.slots ∧ zC G yX7_init cX7_init 3 none rm_X7_init M9 [.ref q8, .ref b10] (fun M11 v => v = none ∧ ((n + 1) + 17) + 1 ≤ X.R.cells ∧ ((k + 3) + 232) + 5 ≤ X.R.slots ∧ ∀ q12 : Nat, M11.1 q12 = 0 → ∀ M13 : zM, M13 = zn M11 q12 10 0 → (((n + 1) + 17) + 1) + 1 ≤ X.R.cells ∧ (((k + 3) + 232) + 5) + 23 ≤ X.R.slots ∧ zC G yX10_init cX10_init 1 none rm_X10_init M13 [.ref q12] (fun M14 v => v = none ∧ ((((n + 1) + 17) + 1) + 1) + 1 ≤ X.R.cells ∧ ((((k + 3) + 232) + 5) + 23) + 11 ≤ X.R.slots ∧ ∀ q15 : Nat, M14.1 q15 = 0 → ∀ M16 : zM, M16 = zn M14 q15 2 0 → (((((n + 1) + 17) + 1) + 1) + 1) + 1 ≤ X.R.cells ∧ (((((k + 3) + 232) + 5) + 23) + 11) + 15 ≤ X.R.slots ∧ ∀ q17 : Nat, M16.1 q17 = 0 → ∀ M18 : zM, M18 = zn M16 q17 1 0 → ((((((n + 1) + 17) + 1) + 1) + 1) + 1) + 4 ≤ X.R.cells ∧ ((((((k + 3) + 232) + 5) + 23) + 11) + 15) + 104 ≤ X.R.slots ∧ zC G yX0_init cX0_init 4 none rm_X0_init M18 [.ref q17, .int y5, .ref q8, .ref q12] (fun M19 v => v = none ∧ (((((((n + 1) + 17) + 1) + 1) + 1) + 1) + 4) + 5 ≤ X.R.cells ∧ (((((((k + 3) + 232) + 5) + 23) + 11) + 15) + 104) + 88 ≤ X.R.slots ∧ zC G yX1_init cX1_init 5 none rm_X1_init M19 [.ref q15, .int y5, .ref q8, .ref q12, .ref q17] (fun M20 v => v = none ∧ M20.1 b2 = 6 ∧ zC G yX5_addDevice cX5_addDevice 3 none rm_X5_addDevice M20 [.ref b2, .ref q15] (fun M21 v => v = none ∧ M21.1 a0 = 11 ∧ ∃ b22 : Nat, M21.2.2.2 a0 2 = some b22 ∧ M21.1 a0 = 11 ∧ M21.1 b22 = 103 ∧ M21.1 q15 = 2 ∧ vp_in ((M21.2.2.1 a0 10)) (M21.2.1 b22) ∧ ∀ M23 : zM, M23 = zr M21 b22 (((M21.2.2.1 a0 10)).toNatClampNeg) (some q15) → M23.1 a0 = 11 ∧ M23.1 a0 = 11 ∧ ∀ M24 : zM, M24 = zi M23 a0 10 ((M23.2.2.1 a0 10) + 1) → M24.1 a0 = 11 ∧ X.q M24 (some (.int ((M24.2.2.1 a0 10) - 1))))))))) ∧ (¬ r7 = 0 → X.q M6 (some (.int (-1)))))) ∧ (r4 = 0 → X.q M3 (some (.int (-1)))))))) : zW G X 8 M n k 0 [(0, .ref a0), (1, .int x1), (2, .int x2)] [] := by
  refine z_aload_n O dX11_device_0 rfl 0 rfl ?_
  refine z_iload_n O dX11_device_1 rfl 1 rfl ?_
  obtain ⟨hk, h⟩ := h
  refine z_callV0 (As := [.int x1]) O zc_X11_82 h hk rfl (zRm_of hR (by decide) (by decide)) (Nat.le_of_ble_eq_true rfl) dX11_device_2 rfl rfl rfl (fun M1 v h => ?_)
  rcases h with ⟨rfl, h⟩ | ⟨b2, rfl, h⟩
  · skip
    refine z_astore_nN (lv' := [(3, .null), (0, .ref a0), (1, .int x1), (2, .int x2)]) O dX11_device_5 rfl (by decide) rfl ?_
    refine z_aload_n O dX11_device_6 rfl 1 rfl ?_
    obtain ⟨hk, h⟩ := h
    refine z_geti O zf_X11_86_10 dX11_device_7 hk ?_
    refine z_bipush (v := 24) O dX11_device_10 rfl ?_
    refine z_icmp_ge O 30 dX11_device_12 (by decide) (fun c => ?_) (fun c => ?_)
    · replace h := h.1 c
      refine z_iconst (v := (-1)) O dX11_device_30 rfl ?_
      exact z_iret O dX11_device_31 h
    · replace h := h.2 c
      refine z_aload_nN O dX11_device_15 rfl 0 rfl ?_
      refine z_ifnullN O 30 dX11_device_16 (by decide) ?_
      refine z_iconst (v := (-1)) O dX11_device_30 rfl ?_
      exact z_iret O dX11_device_31 h
  · skip
    refine z_astore_n (lv' := [(3, .ref b2), (0, .ref a0), (1, .int x1), (2, .int x2)]) O dX11_device_5 rfl (by decide) rfl ?_
    refine z_aload_n O dX11_device_6 rfl 1 rfl ?_
    obtain ⟨hk, h⟩ := h
    refine z_geti O zf_X11_86_10 dX11_device_7 hk ?_
    refine z_bipush (v := 24) O dX11_device_10 rfl ?_
    refine z_icmp_ge O 30 dX11_device_12 (by decide) (fun c => ?_) (fun c => ?_)
    · replace h := h.1 c
      refine z_iconst (v := (-1)) O dX11_device_30 rfl ?_
      exact z_iret O dX11_device_31 h
    · replace h := h.2 c
      refine z_aload_n O dX11_device_15 rfl 0 rfl ?_
      refine z_ifnull O dX11_device_16 ?_
      refine z_iload_n O dX11_device_19 rfl 3 rfl ?_
      refine z_iconst (v := 1) O dX11_device_20 rfl ?_
      refine z_sipush (v := 255) O dX11_device_21 rfl ?_
      refine z_callS0 (As := [.int x2, .int 1, .int 255]) O zc_X11_71 h rfl (zRm_of hR (by decide) (by decide)) (Nat.le_of_ble_eq_true rfl) dX11_device_24 rfl rfl rfl (fun M3 v h => ?_)
      obtain ⟨r4, rfl, h⟩ := h
      refine z_if_ne O 32 dX11_device_27 (by decide) (fun c => ?_) (fun c => ?_)
      · replace h := h.1 c
        refine z_sipush (v := 256) O dX11_device_32 rfl ?_
        refine z_aload_n O dX11_device_35 rfl 0 rfl ?_
        obtain ⟨hk, h⟩ := h
        refine z_geti O zf_X11_89_5 dX11_device_36 hk ?_
        refine z_imul O dX11_device_39 ?_
        refine z_iload_n O dX11_device_40 rfl 3 rfl ?_
        refine z_iadd O dX11_device_41 ?_
        refine z_topi (fun y5 ey5 => ?_)
        replace h := h y5 ey5
        refine z_istore (lv' := [(4, .int y5), (3, .ref b2), (0, .ref a0), (1, .int x1), (2, .int x2)]) O dX11_device_42 (by decide) rfl ?_
        refine z_aload_n O dX11_device_44 rfl 2 rfl ?_
        refine z_iload O dX11_device_45 0 rfl ?_
        obtain ⟨hk, h⟩ := h
        refine z_callV0 (As := [.int y5]) O zc_X11_92 h hk rfl (zRm_of hR (by decide) (by decide)) (Nat.le_of_ble_eq_true rfl) dX11_device_47 rfl rfl rfl (fun M6 v h => ?_)
        obtain ⟨r7, rfl, h⟩ := h
        refine z_if_eq O 55 dX11_device_50 (by decide) (fun c => ?_) (fun c => ?_)
        · replace h := h.1 c
          obtain ⟨hn, hs, h⟩ := h
          refine z_new O zn_X11_96 dX11_device_55 hn hs (fun q8 fq8 => ?_)
          generalize eM9 : zn M6 q8 8 0 = M9
          replace h := h q8 fq8 M9 eM9.symm
          refine z_dup O dX11_device_58 rfl ?_
          refine z_aload_n O dX11_device_59 rfl 2 rfl ?_
          obtain ⟨hk, b10, hr, h⟩ := h
          refine z_getr O zf_X11_10_10 dX11_device_60 hk hr ?_
          obtain ⟨hn, hs, h⟩ := h
          refine z_callIk (As := [.ref b10]) O zc_X11_98 h rfl (zRm_of hR (by decide) (by decide)) (Nat.le_of_ble_eq_true rfl) dX11_device_63 (mc := 17) (ms := 232) rfl rfl hn hs rfl (fun M11 v h => ?_)
          obtain ⟨rfl, h⟩ := h
          refine z_astore (lv' := [(5, .ref q8), (4, .int y5), (3, .ref b2), (0, .ref a0), (1, .int x1), (2, .int x2)]) O dX11_device_66 (by decide) rfl ?_
          obtain ⟨hn, hs, h⟩ := h
          refine z_new O zn_X11_51 dX11_device_68 hn hs (fun q12 fq12 => ?_)
          generalize eM13 : zn M11 q12 10 0 = M13
          replace h := h q12 fq12 M13 eM13.symm
          refine z_dup O dX11_device_71 rfl ?_
          obtain ⟨hn, hs, h⟩ := h
          refine z_callINk (As := []) O zc_X11_53 h rfl (zRm_of hR (by decide) (by decide)) (Nat.le_of_ble_eq_true rfl) dX11_device_72 (mc := 1) (ms := 23) rfl rfl hn hs rfl (fun M14 v h => ?_)
          obtain ⟨rfl, h⟩ := h
          refine z_astore (lv' := [(6, .ref q12), (5, .ref q8), (4, .int y5), (3, .ref b2), (0, .ref a0), (1, .int x1), (2, .int x2)]) O dX11_device_75 (by decide) rfl ?_
          obtain ⟨hn, hs, h⟩ := h
          refine z_new O zn_X11_22 dX11_device_77 hn hs (fun q15 fq15 => ?_)
          generalize eM16 : zn M14 q15 2 0 = M16
          replace h := h q15 fq15 M16 eM16.symm
          refine z_dup O dX11_device_80 rfl ?_
          refine z_iload O dX11_device_81 2 rfl ?_
          refine z_aload O dX11_device_83 1 rfl ?_
          refine z_aload O dX11_device_85 0 rfl ?_
          obtain ⟨hn, hs, h⟩ := h
          refine z_new O zn_X11_101 dX11_device_87 hn hs (fun q17 fq17 => ?_)
          generalize eM18 : zn M16 q17 1 0 = M18
          replace h := h q17 fq17 M18 eM18.symm
          refine z_dup O dX11_device_90 rfl ?_
          refine z_iload O dX11_device_91 2 rfl ?_
          refine z_aload O dX11_device_93 1 rfl ?_
          refine z_aload O dX11_device_95 0 rfl ?_
          obtain ⟨hn, hs, h⟩ := h
          refine z_callIk (As := [.int y5, .ref q8, .ref q12]) O zc_X11_103 h rfl (zRm_of hR (by decide) (by decide)) (Nat.le_of_ble_eq_true rfl) dX11_device_97 (mc := 4) (ms := 104) rfl rfl hn hs rfl (fun M19 v h => ?_)
          obtain ⟨rfl, h⟩ := h
          obtain ⟨hn, hs, h⟩ := h
          refine z_callIk (As := [.int y5, .ref q8, .ref q12, .ref q17]) O zc_X11_106 h rfl (zRm_of hR (by decide) (by decide)) (Nat.le_of_ble_eq_true rfl) dX11_device_100 (mc := 5) (ms := 88) rfl rfl hn hs rfl (fun M20 v h => ?_)
          obtain ⟨rfl, h⟩ := h
          refine z_astore (lv' := [(7, .ref q15), (6, .ref q12), (5, .ref q8), (4, .int y5), (3, .ref b2), (0, .ref a0), (1, .int x1), (2, .int x2)]) O dX11_device_103 (by decide) rfl ?_
          refine z_aload_n O dX11_device_105 rfl 4 rfl ?_
          refine z_aload O dX11_device_106 0 rfl ?_
          obtain ⟨hk, h⟩ := h
          refine z_callV0 (As := [.ref q15]) O zc_X11_109 h hk rfl (zRm_of hR (by decide) (by decide)) (Nat.le_of_ble_eq_true rfl) dX11_device_108 rfl rfl rfl (fun M21 v h => ?_)
          obtain ⟨rfl, h⟩ := h
          refine z_aload_n O dX11_device_111 rfl 5 rfl ?_
          obtain ⟨hk, b22, hr, h⟩ := h
          refine z_getr O zf_X11_24_10 dX11_device_112 hk hr ?_
          refine z_aload_n O dX11_device_115 rfl 5 rfl ?_
          obtain ⟨hk, h⟩ := h
          refine z_geti O zf_X11_86_10 dX11_device_116 hk ?_
          refine z_aload O dX11_device_119 0 rfl ?_
          obtain ⟨hk, hkv, hi, h⟩ := h
          refine z_ast (t := 1) (ci := 1) (C := RX1) (T := TX1) (N := 11) O rfl rfl (by decide) dX11_device_121 hk hkv hi ?_
          generalize eM23 : zr M21 b22 (((M21.2.2.1 a0 10)).toNatClampNeg) (some q15) = M23
          replace h := h M23 eM23.symm
          refine z_aload_n O dX11_device_122 rfl 5 rfl ?_
          refine z_dup O dX11_device_123 rfl ?_
          obtain ⟨hk, h⟩ := h
          refine z_geti O zf_X11_86_10 dX11_device_124 hk ?_
          refine z_iconst (v := 1) O dX11_device_127 rfl ?_
          refine z_iadd O dX11_device_128 ?_
          obtain ⟨hk, h⟩ := h
          refine z_puti O zp_X11_86_10 dX11_device_129 hk ?_
          generalize eM24 : zi M23 a0 10 ((M23.2.2.1 a0 10) + 1) = M24
          replace h := h M24 eM24.symm
          refine z_aload_n O dX11_device_132 rfl 5 rfl ?_
          obtain ⟨hk, h⟩ := h
          refine z_geti O zf_X11_86_10 dX11_device_133 hk ?_
          refine z_iconst (v := 1) O dX11_device_136 rfl ?_
          refine z_isub O dX11_device_137 ?_
          exact z_iret O dX11_device_138 h
        · replace h := h.2 c
          refine z_iconst (v := (-1)) O dX11_device_53 rfl ?_
          exact z_iret O dX11_device_54 h
      · replace h := h.2 c
        refine z_iconst (v := (-1)) O dX11_device_30 rfl ?_
        exact z_iret O dX11_device_31 h
set_option maxRecDepth 100000 in
set_option maxHeartbeats 4000000 in
theorem b_X11_coupler_0 {G : zG} {X : zX} (O : zOK G X cX11_coupler 10 RX11 (some .int) "coupler") (hR : X.R = rm_X11_coupler) {M : zM} {n k : Nat} {a0 : Nat} {x1 : Int32} {x2 : Int32} (h : M.1 a0 = 11 ∧ zC G yX11_lineAt cX11_lineAt 2 (some (.object "HouseWires$Line")) rm_X11_lineAt M [.ref a0, .int x1] (fun M1 v => (v = some .null ∧ M1.1 a0 = 11 ∧ zC G yX11_lineAt cX11_lineAt 2 (some (.object "HouseWires$Line")) rm_X11_lineAt M1 [.ref a0, .int x2] (fun M3 v => (v = some .null ∧ M3.1 a0 = 11 ∧ (5 ≤ (M3.2.2.1 a0 11) → X.q M3 (some (.int (-1)))) ∧ (¬ 5 ≤ (M3.2.2.1 a0 11) → X.q M3 (some (.int (-1))))) ∨ ∃ b4 : Nat, v = some (.ref b4) ∧ M3.1 a0 = 11 ∧ (5 ≤ (M3.2.2.1 a0 11) → X.q M3 (some (.int (-1)))) ∧ (¬ 5 ≤ (M3.2.2.1 a0 11) → X.q M3 (some (.int (-1)))))) ∨ ∃ b2 : Nat, v = some (.ref b2) ∧ M1.1 a0 = 11 ∧ zC G yX11_lineAt cX11_lineAt 2 (some (.object "HouseWires$Line")) rm_X11_lineAt M1 [.ref a0, .int x2] (fun M5 v => (v = some .null ∧ M5.1 a0 = 11 ∧ (5 ≤ (M5.2.2.1 a0 11) → X.q M5 (some (.int (-1)))) ∧ (¬ 5 ≤ (M5.2.2.1 a0 11) → X.q M5 (some (.int (-1))))) ∨ ∃ b6 : Nat, v = some (.ref b6) ∧ M5.1 a0 = 11 ∧ (5 ≤ (M5.2.2.1 a0 11) → X.q M5 (some (.int (-1)))) ∧ (¬ 5 ≤ (M5.2.2.1 a0 11) → M5.1 b2 = 6 ∧ zC G yX5_isJoinedWith cX5_isJoinedWith 2 (some .boolean) rm_X5_isJoinedWith M5 [.ref b2, .int x2] (fun M7 v => ∃ r8 : Int32, v = some (.int r8) ∧ (r8 = 0 → n + 1 ≤ X.R.cells ∧ k + 3 ≤ X.R.slots ∧ ∀ q9 : Nat, M7.1 q9 = 0 → ∀ M10 : zM, M10 = zn M7 q9 3 0 → (n + 1) + 1 ≤ X.R.cells ∧ (k + 3) + 64 ≤ X.R.slots ∧ zC G yX2_init cX2_init 1 none rm_X2_init M10 [.ref q9] (fun M11 v => v = none ∧ ((n + 1) + 1) + 1 ≤ X.R.cells ∧ ((k + 3) + 64) + 3 ≤ X.R.slots ∧ ∀ q12 : Nat, M11.1 q12 = 0 → ∀ M13 : zM, M13 = zn M11 q12 8 0 → M13.1 a0 = 11 ∧ ∃ b14 : Nat, M13.2.2.2 a0 0 = some b14 ∧ (((n + 1) + 1) + 1) + 17 ≤ X.R.cells ∧ (((k + 3) + 64) + 3) + 232 ≤ X.R.slots ∧ zC G yX7_init cX7_init 3 none rm_X7_init M13 [.ref q12, .ref b14] (fun M15 v => v = none ∧ ((((n + 1) + 1) + 1) + 17) + 1 ≤ X.R.cells ∧ ((((k + 3) + 64) + 3) + 232) + 3 ≤ X.R.slots ∧ ∀ q16 : Nat, M15.1 q16 = 0 → ∀ M17 : zM, M17 = zn M15 q16 8 0 → M17.1 a0 = 11 ∧ ∃ b18 : Nat, M17.2.2.2 a0 0 = some b18 ∧ (((((n + 1) + 1) + 1) + 17) + 1) + 17 ≤ X.R.cells ∧ (((((k + 3) + 64) + 3) + 232) + 3) + 232 ≤ X.R.slots ∧ zC G yX7_init cX7_init 3 none rm_X7_init M17 [.ref q16, .ref b18] (fun M19 v => v = none ∧ ((((((n + 1) + 1) + 1) + 17) + 1) + 17) + 1 ≤ X.R.cells ∧ ((((((k + 3) + 64) + 3) + 232) + 3) + 232) + 5 ≤ X.R.slots ∧ ∀ q20 : Nat, M19.1 q20 = 0 → ∀ M21 : zM, M21 = zn M19 q20 7 0 → M21.1 b6 = 6 ∧ (((((((n + 1) + 1) + 1) + 17) + 1) + 17) + 1) + 2 ≤ X.R.cells ∧ (((((((k + 3) + 64) + 3) + 232) + 3) + 232) + 5) + 28 ≤ X.R.slots ∧ zC G yX6_init cX6_init 5 none rm_X6_init M21 [.ref q20, .ref q12, .ref q16, .ref q9, .int (M21.2.2.1 b6 5)] (fun M22 v => v = none ∧ ((((((((n + 1) + 1) + 1) + 17) + 1) + 17) + 1) + 2) + 1 ≤ X.R.cells ∧ ((((((((k + 3) + 64) + 3) + 232) + 3) + 232) + 5) + 28) + 5 ≤ X.R.slots ∧ ∀ q23 : Nat, M22.1 q23 = 0 → ∀ M24 : zM, M24 = zn M22 q23 7 0 → M24.1 b2 = 6 ∧ (((((((((n + 1) + 1) + 1) + 17) + 1) + 17) + 1) + 2) + 1) + 2 ≤ X.R.cells ∧ (((((((((k + 3) + 64) + 3) + 232) + 3) + 232) + 5) + 28) + 5) + 28 ≤ X.R.slots ∧ zC G yX6_init cX6_init 5 none rm_X6_init M24 [.ref q23, .ref q16, .ref q12, .ref q9, .int (M24.2.2.1 b2 5)] (fun M25 v => v = none ∧ M25.1 b2 = 6 ∧ M25.1 b6 = 6 ∧ M25.1 a0 = 11 ∧ zC G yX11_joinLines cX11_joinLines 7 none rm_X11_joinLines M25 [.ref a0, .int x1, .int (M25.2.2.1 b2 5), .int x2, .int (M25.2.2.1 b6 5)] (fun M26 v => v = none ∧ M26.1 b2 = 6 ∧ zC G yX5_addPort cX5_addPort 2 none rm_X5_addPort M26 [.ref b2, .ref q20] (fun M27 v => v = none ∧ M27.1 b6 = 6 ∧ zC G yX5_addPort cX5_addPort 2 none rm_X5_addPort M27 [.ref b6, .ref q23] (fun M28 v => v = none ∧ M28.1 a0 = 11 ∧ ∃ b29 : Nat, M28.2.2.2 a0 3 = some b29 ∧ M28.1 a0 = 11 ∧ M28.1 b29 = 104 ∧ M28.1 q9 = 3 ∧ vp_in ((M28.2.2.1 a0 11)) (M28.2.1 b29) ∧ ∀ M30 : zM, M30 = zr M28 b29 (((M28.2.2.1 a0 11)).toNatClampNeg) (some q9) → M30.1 a0 = 11 ∧ ∃ b31 : Nat, M30.2.2.2 a0 4 = some b31 ∧ M30.1 a0 = 11 ∧ M30.1 b31 = 105 ∧ M30.1 q20 = 7 ∧ vp_in ((2 * (M30.2.2.1 a0 11))) (M30.2.1 b31) ∧ ∀ M32 : zM, M32 = zr M30 b31 (((2 * (M30.2.2.1 a0 11))).toNatClampNeg) (some q20) → M32.1 a0 = 11 ∧ ∃ b33 : Nat, M32.2.2.2 a0 4 = some b33 ∧ M32.1 a0 = 11 ∧ M32.1 b33 = 105 ∧ M32.1 q23 = 7 ∧ vp_in (((2 * (M32.2.2.1 a0 11)) + 1)) (M32.2.1 b33) ∧ ∀ M34 : zM, M34 = zr M32 b33 ((((2 * (M32.2.2.1 a0 11)) + 1)).toNatClampNeg) (some q23) → M34.1 a0 = 11 ∧ M34.1 a0 = 11 ∧ ∀ M35 : zM, M35 = zi M34 a0 11 ((M34.2.2.1 a0 11) + 1) → M35.1 a0 = 11 ∧ X.q M35 (some (.int ((M35.2.2.1 a0 11) - 1)))))))))))) ∧ (¬ r8 = 0 → X.q M7 (some (.int (-1))))))))) : zW G X 10 M n k 0 [(0, .ref a0), (1, .int x1), (2, .int x2)] [] := by
  refine z_aload_n O dX11_coupler_0 rfl 0 rfl ?_
  refine z_iload_n O dX11_coupler_1 rfl 1 rfl ?_
  obtain ⟨hk, h⟩ := h
  refine z_callV0 (As := [.int x1]) O zc_X11_82 h hk rfl (zRm_of hR (by decide) (by decide)) (Nat.le_of_ble_eq_true rfl) dX11_coupler_2 rfl rfl rfl (fun M1 v h => ?_)
  rcases h with ⟨rfl, h⟩ | ⟨b2, rfl, h⟩
  · skip
    refine z_astore_nN (lv' := [(3, .null), (0, .ref a0), (1, .int x1), (2, .int x2)]) O dX11_coupler_5 rfl (by decide) rfl ?_
    refine z_aload_n O dX11_coupler_6 rfl 1 rfl ?_
    refine z_iload_n O dX11_coupler_7 rfl 3 rfl ?_
    obtain ⟨hk, h⟩ := h
    refine z_callV0 (As := [.int x2]) O zc_X11_82 h hk rfl (zRm_of hR (by decide) (by decide)) (Nat.le_of_ble_eq_true rfl) dX11_coupler_8 rfl rfl rfl (fun M3 v h => ?_)
    rcases h with ⟨rfl, h⟩ | ⟨b4, rfl, h⟩
    · skip
      refine z_astoreN (lv' := [(4, .null), (3, .null), (0, .ref a0), (1, .int x1), (2, .int x2)]) O dX11_coupler_11 (by decide) rfl ?_
      refine z_aload_n O dX11_coupler_13 rfl 2 rfl ?_
      obtain ⟨hk, h⟩ := h
      refine z_geti O zf_X11_113_10 dX11_coupler_14 hk ?_
      refine z_iconst (v := 5) O dX11_coupler_17 rfl ?_
      refine z_icmp_ge O 38 dX11_coupler_18 (by decide) (fun c => ?_) (fun c => ?_)
      · replace h := h.1 c
        refine z_iconst (v := (-1)) O dX11_coupler_38 rfl ?_
        exact z_iret O dX11_coupler_39 h
      · replace h := h.2 c
        refine z_aload_nN O dX11_coupler_21 rfl 1 rfl ?_
        refine z_ifnullN O 38 dX11_coupler_22 (by decide) ?_
        refine z_iconst (v := (-1)) O dX11_coupler_38 rfl ?_
        exact z_iret O dX11_coupler_39 h
    · skip
      refine z_astore (lv' := [(4, .ref b4), (3, .null), (0, .ref a0), (1, .int x1), (2, .int x2)]) O dX11_coupler_11 (by decide) rfl ?_
      refine z_aload_n O dX11_coupler_13 rfl 2 rfl ?_
      obtain ⟨hk, h⟩ := h
      refine z_geti O zf_X11_113_10 dX11_coupler_14 hk ?_
      refine z_iconst (v := 5) O dX11_coupler_17 rfl ?_
      refine z_icmp_ge O 38 dX11_coupler_18 (by decide) (fun c => ?_) (fun c => ?_)
      · replace h := h.1 c
        refine z_iconst (v := (-1)) O dX11_coupler_38 rfl ?_
        exact z_iret O dX11_coupler_39 h
      · replace h := h.2 c
        refine z_aload_nN O dX11_coupler_21 rfl 1 rfl ?_
        refine z_ifnullN O 38 dX11_coupler_22 (by decide) ?_
        refine z_iconst (v := (-1)) O dX11_coupler_38 rfl ?_
        exact z_iret O dX11_coupler_39 h
  · skip
    refine z_astore_n (lv' := [(3, .ref b2), (0, .ref a0), (1, .int x1), (2, .int x2)]) O dX11_coupler_5 rfl (by decide) rfl ?_
    refine z_aload_n O dX11_coupler_6 rfl 1 rfl ?_
    refine z_iload_n O dX11_coupler_7 rfl 3 rfl ?_
    obtain ⟨hk, h⟩ := h
    refine z_callV0 (As := [.int x2]) O zc_X11_82 h hk rfl (zRm_of hR (by decide) (by decide)) (Nat.le_of_ble_eq_true rfl) dX11_coupler_8 rfl rfl rfl (fun M5 v h => ?_)
    rcases h with ⟨rfl, h⟩ | ⟨b6, rfl, h⟩
    · skip
      refine z_astoreN (lv' := [(4, .null), (3, .ref b2), (0, .ref a0), (1, .int x1), (2, .int x2)]) O dX11_coupler_11 (by decide) rfl ?_
      refine z_aload_n O dX11_coupler_13 rfl 2 rfl ?_
      obtain ⟨hk, h⟩ := h
      refine z_geti O zf_X11_113_10 dX11_coupler_14 hk ?_
      refine z_iconst (v := 5) O dX11_coupler_17 rfl ?_
      refine z_icmp_ge O 38 dX11_coupler_18 (by decide) (fun c => ?_) (fun c => ?_)
      · replace h := h.1 c
        refine z_iconst (v := (-1)) O dX11_coupler_38 rfl ?_
        exact z_iret O dX11_coupler_39 h
      · replace h := h.2 c
        refine z_aload_n O dX11_coupler_21 rfl 1 rfl ?_
        refine z_ifnull O dX11_coupler_22 ?_
        refine z_aloadN O dX11_coupler_25 0 rfl ?_
        refine z_ifnullN O 38 dX11_coupler_27 (by decide) ?_
        refine z_iconst (v := (-1)) O dX11_coupler_38 rfl ?_
        exact z_iret O dX11_coupler_39 h
    · skip
      refine z_astore (lv' := [(4, .ref b6), (3, .ref b2), (0, .ref a0), (1, .int x1), (2, .int x2)]) O dX11_coupler_11 (by decide) rfl ?_
      refine z_aload_n O dX11_coupler_13 rfl 2 rfl ?_
      obtain ⟨hk, h⟩ := h
      refine z_geti O zf_X11_113_10 dX11_coupler_14 hk ?_
      refine z_iconst (v := 5) O dX11_coupler_17 rfl ?_
      refine z_icmp_ge O 38 dX11_coupler_18 (by decide) (fun c => ?_) (fun c => ?_)
      · replace h := h.1 c
        refine z_iconst (v := (-1)) O dX11_coupler_38 rfl ?_
        exact z_iret O dX11_coupler_39 h
      · replace h := h.2 c
        refine z_aload_n O dX11_coupler_21 rfl 1 rfl ?_
        refine z_ifnull O dX11_coupler_22 ?_
        refine z_aload O dX11_coupler_25 0 rfl ?_
        refine z_ifnull O dX11_coupler_27 ?_
        refine z_aload_n O dX11_coupler_30 rfl 1 rfl ?_
        refine z_iload_n O dX11_coupler_31 rfl 4 rfl ?_
        obtain ⟨hk, h⟩ := h
        refine z_callV0 (As := [.int x2]) O zc_X11_116 h hk rfl (zRm_of hR (by decide) (by decide)) (Nat.le_of_ble_eq_true rfl) dX11_coupler_32 rfl rfl rfl (fun M7 v h => ?_)
        obtain ⟨r8, rfl, h⟩ := h
        refine z_if_eq O 40 dX11_coupler_35 (by decide) (fun c => ?_) (fun c => ?_)
        · replace h := h.1 c
          obtain ⟨hn, hs, h⟩ := h
          refine z_new O zn_X11_28 dX11_coupler_40 hn hs (fun q9 fq9 => ?_)
          generalize eM10 : zn M7 q9 3 0 = M10
          replace h := h q9 fq9 M10 eM10.symm
          refine z_dup O dX11_coupler_43 rfl ?_
          obtain ⟨hn, hs, h⟩ := h
          refine z_callINk (As := []) O zc_X11_119 h rfl (zRm_of hR (by decide) (by decide)) (Nat.le_of_ble_eq_true rfl) dX11_coupler_44 (mc := 1) (ms := 64) rfl rfl hn hs rfl (fun M11 v h => ?_)
          obtain ⟨rfl, h⟩ := h
          refine z_astore (lv' := [(5, .ref q9), (4, .ref b6), (3, .ref b2), (0, .ref a0), (1, .int x1), (2, .int x2)]) O dX11_coupler_47 (by decide) rfl ?_
          obtain ⟨hn, hs, h⟩ := h
          refine z_new O zn_X11_96 dX11_coupler_49 hn hs (fun q12 fq12 => ?_)
          generalize eM13 : zn M11 q12 8 0 = M13
          replace h := h q12 fq12 M13 eM13.symm
          refine z_dup O dX11_coupler_52 rfl ?_
          refine z_aload_n O dX11_coupler_53 rfl 3 rfl ?_
          obtain ⟨hk, b14, hr, h⟩ := h
          refine z_getr O zf_X11_10_10 dX11_coupler_54 hk hr ?_
          obtain ⟨hn, hs, h⟩ := h
          refine z_callIk (As := [.ref b14]) O zc_X11_98 h rfl (zRm_of hR (by decide) (by decide)) (Nat.le_of_ble_eq_true rfl) dX11_coupler_57 (mc := 17) (ms := 232) rfl rfl hn hs rfl (fun M15 v h => ?_)
          obtain ⟨rfl, h⟩ := h
          refine z_astore (lv' := [(6, .ref q12), (5, .ref q9), (4, .ref b6), (3, .ref b2), (0, .ref a0), (1, .int x1), (2, .int x2)]) O dX11_coupler_60 (by decide) rfl ?_
          obtain ⟨hn, hs, h⟩ := h
          refine z_new O zn_X11_96 dX11_coupler_62 hn hs (fun q16 fq16 => ?_)
          generalize eM17 : zn M15 q16 8 0 = M17
          replace h := h q16 fq16 M17 eM17.symm
          refine z_dup O dX11_coupler_65 rfl ?_
          refine z_aload_n O dX11_coupler_66 rfl 4 rfl ?_
          obtain ⟨hk, b18, hr, h⟩ := h
          refine z_getr O zf_X11_10_10 dX11_coupler_67 hk hr ?_
          obtain ⟨hn, hs, h⟩ := h
          refine z_callIk (As := [.ref b18]) O zc_X11_98 h rfl (zRm_of hR (by decide) (by decide)) (Nat.le_of_ble_eq_true rfl) dX11_coupler_70 (mc := 17) (ms := 232) rfl rfl hn hs rfl (fun M19 v h => ?_)
          obtain ⟨rfl, h⟩ := h
          refine z_astore (lv' := [(7, .ref q16), (6, .ref q12), (5, .ref q9), (4, .ref b6), (3, .ref b2), (0, .ref a0), (1, .int x1), (2, .int x2)]) O dX11_coupler_73 (by decide) rfl ?_
          obtain ⟨hn, hs, h⟩ := h
          refine z_new O zn_X11_34 dX11_coupler_75 hn hs (fun q20 fq20 => ?_)
          generalize eM21 : zn M19 q20 7 0 = M21
          replace h := h q20 fq20 M21 eM21.symm
          refine z_dup O dX11_coupler_78 rfl ?_
          refine z_aload O dX11_coupler_79 1 rfl ?_
          refine z_aload O dX11_coupler_81 0 rfl ?_
          refine z_aload O dX11_coupler_83 2 rfl ?_
          refine z_aload O dX11_coupler_85 3 rfl ?_
          obtain ⟨hk, h⟩ := h
          refine z_geti O zf_X11_120_5 dX11_coupler_87 hk ?_
          obtain ⟨hn, hs, h⟩ := h
          refine z_callIk (As := [.ref q12, .ref q16, .ref q9, .int (M21.2.2.1 b6 5)]) O zc_X11_123 h rfl (zRm_of hR (by decide) (by decide)) (Nat.le_of_ble_eq_true rfl) dX11_coupler_90 (mc := 2) (ms := 28) rfl rfl hn hs rfl (fun M22 v h => ?_)
          obtain ⟨rfl, h⟩ := h
          refine z_astore (lv' := [(8, .ref q20), (7, .ref q16), (6, .ref q12), (5, .ref q9), (4, .ref b6), (3, .ref b2), (0, .ref a0), (1, .int x1), (2, .int x2)]) O dX11_coupler_93 (by decide) rfl ?_
          obtain ⟨hn, hs, h⟩ := h
          refine z_new O zn_X11_34 dX11_coupler_95 hn hs (fun q23 fq23 => ?_)
          generalize eM24 : zn M22 q23 7 0 = M24
          replace h := h q23 fq23 M24 eM24.symm
          refine z_dup O dX11_coupler_98 rfl ?_
          refine z_aload O dX11_coupler_99 1 rfl ?_
          refine z_aload O dX11_coupler_101 2 rfl ?_
          refine z_aload O dX11_coupler_103 3 rfl ?_
          refine z_aload_n O dX11_coupler_105 rfl 5 rfl ?_
          obtain ⟨hk, h⟩ := h
          refine z_geti O zf_X11_120_5 dX11_coupler_106 hk ?_
          obtain ⟨hn, hs, h⟩ := h
          refine z_callIk (As := [.ref q16, .ref q12, .ref q9, .int (M24.2.2.1 b2 5)]) O zc_X11_123 h rfl (zRm_of hR (by decide) (by decide)) (Nat.le_of_ble_eq_true rfl) dX11_coupler_109 (mc := 2) (ms := 28) rfl rfl hn hs rfl (fun M25 v h => ?_)
          obtain ⟨rfl, h⟩ := h
          refine z_astore (lv' := [(9, .ref q23), (8, .ref q20), (7, .ref q16), (6, .ref q12), (5, .ref q9), (4, .ref b6), (3, .ref b2), (0, .ref a0), (1, .int x1), (2, .int x2)]) O dX11_coupler_112 (by decide) rfl ?_
          refine z_aload_n O dX11_coupler_114 rfl 7 rfl ?_
          refine z_iload_n O dX11_coupler_115 rfl 8 rfl ?_
          refine z_aload_n O dX11_coupler_116 rfl 6 rfl ?_
          obtain ⟨hk, h⟩ := h
          refine z_geti O zf_X11_120_5 dX11_coupler_117 hk ?_
          refine z_iload_n O dX11_coupler_120 rfl 9 rfl ?_
          refine z_aload O dX11_coupler_121 5 rfl ?_
          obtain ⟨hk, h⟩ := h
          refine z_geti O zf_X11_120_5 dX11_coupler_123 hk ?_
          obtain ⟨hk, h⟩ := h
          refine z_callV0 (As := [.int x1, .int (M25.2.2.1 b2 5), .int x2, .int (M25.2.2.1 b6 5)]) O zc_X11_126 h hk rfl (zRm_of hR (by decide) (by decide)) (Nat.le_of_ble_eq_true rfl) dX11_coupler_126 rfl rfl rfl (fun M26 v h => ?_)
          obtain ⟨rfl, h⟩ := h
          refine z_aload_n O dX11_coupler_129 rfl 6 rfl ?_
          refine z_aload O dX11_coupler_130 1 rfl ?_
          obtain ⟨hk, h⟩ := h
          refine z_callV0 (As := [.ref q20]) O zc_X11_130 h hk rfl (zRm_of hR (by decide) (by decide)) (Nat.le_of_ble_eq_true rfl) dX11_coupler_132 rfl rfl rfl (fun M27 v h => ?_)
          obtain ⟨rfl, h⟩ := h
          refine z_aload O dX11_coupler_135 5 rfl ?_
          refine z_aload O dX11_coupler_137 0 rfl ?_
          obtain ⟨hk, h⟩ := h
          refine z_callV0 (As := [.ref q23]) O zc_X11_130 h hk rfl (zRm_of hR (by decide) (by decide)) (Nat.le_of_ble_eq_true rfl) dX11_coupler_139 rfl rfl rfl (fun M28 v h => ?_)
          obtain ⟨rfl, h⟩ := h
          refine z_aload_n O dX11_coupler_142 rfl 7 rfl ?_
          obtain ⟨hk, b29, hr, h⟩ := h
          refine z_getr O zf_X11_30_10 dX11_coupler_143 hk hr ?_
          refine z_aload_n O dX11_coupler_146 rfl 7 rfl ?_
          obtain ⟨hk, h⟩ := h
          refine z_geti O zf_X11_113_10 dX11_coupler_147 hk ?_
          refine z_aload O dX11_coupler_150 4 rfl ?_
          obtain ⟨hk, hkv, hi, h⟩ := h
          refine z_ast (t := 2) (ci := 2) (C := RX2) (T := TX2) (N := 3) O rfl rfl (by decide) dX11_coupler_152 hk hkv hi ?_
          generalize eM30 : zr M28 b29 (((M28.2.2.1 a0 11)).toNatClampNeg) (some q9) = M30
          replace h := h M30 eM30.symm
          refine z_aload_n O dX11_coupler_153 rfl 7 rfl ?_
          obtain ⟨hk, b31, hr, h⟩ := h
          refine z_getr O zf_X11_36_10 dX11_coupler_154 hk hr ?_
          refine z_iconst (v := 2) O dX11_coupler_157 rfl ?_
          refine z_aload_n O dX11_coupler_158 rfl 7 rfl ?_
          obtain ⟨hk, h⟩ := h
          refine z_geti O zf_X11_113_10 dX11_coupler_159 hk ?_
          refine z_imul O dX11_coupler_162 ?_
          refine z_aload O dX11_coupler_163 1 rfl ?_
          obtain ⟨hk, hkv, hi, h⟩ := h
          refine z_ast (t := 3) (ci := 6) (C := RX6) (T := TX6) (N := 5) O rfl rfl (by decide) dX11_coupler_165 hk hkv hi ?_
          generalize eM32 : zr M30 b31 (((2 * (M30.2.2.1 a0 11))).toNatClampNeg) (some q20) = M32
          replace h := h M32 eM32.symm
          refine z_aload_n O dX11_coupler_166 rfl 7 rfl ?_
          obtain ⟨hk, b33, hr, h⟩ := h
          refine z_getr O zf_X11_36_10 dX11_coupler_167 hk hr ?_
          refine z_iconst (v := 2) O dX11_coupler_170 rfl ?_
          refine z_aload_n O dX11_coupler_171 rfl 7 rfl ?_
          obtain ⟨hk, h⟩ := h
          refine z_geti O zf_X11_113_10 dX11_coupler_172 hk ?_
          refine z_imul O dX11_coupler_175 ?_
          refine z_iconst (v := 1) O dX11_coupler_176 rfl ?_
          refine z_iadd O dX11_coupler_177 ?_
          refine z_aload O dX11_coupler_178 0 rfl ?_
          obtain ⟨hk, hkv, hi, h⟩ := h
          refine z_ast (t := 3) (ci := 6) (C := RX6) (T := TX6) (N := 5) O rfl rfl (by decide) dX11_coupler_180 hk hkv hi ?_
          generalize eM34 : zr M32 b33 ((((2 * (M32.2.2.1 a0 11)) + 1)).toNatClampNeg) (some q23) = M34
          replace h := h M34 eM34.symm
          refine z_aload_n O dX11_coupler_181 rfl 7 rfl ?_
          refine z_dup O dX11_coupler_182 rfl ?_
          obtain ⟨hk, h⟩ := h
          refine z_geti O zf_X11_113_10 dX11_coupler_183 hk ?_
          refine z_iconst (v := 1) O dX11_coupler_186 rfl ?_
          refine z_iadd O dX11_coupler_187 ?_
          obtain ⟨hk, h⟩ := h
          refine z_puti O zp_X11_113_10 dX11_coupler_188 hk ?_
          generalize eM35 : zi M34 a0 11 ((M34.2.2.1 a0 11) + 1) = M35
          replace h := h M35 eM35.symm
          refine z_aload_n O dX11_coupler_191 rfl 7 rfl ?_
          obtain ⟨hk, h⟩ := h
          refine z_geti O zf_X11_113_10 dX11_coupler_192 hk ?_
          refine z_iconst (v := 1) O dX11_coupler_195 rfl ?_
          refine z_isub O dX11_coupler_196 ?_
          exact z_iret O dX11_coupler_197 h
        · replace h := h.2 c
          refine z_iconst (v := (-1)) O dX11_coupler_38 rfl ?_
          exact z_iret O dX11_coupler_39 h
set_option maxRecDepth 100000 in
set_option maxHeartbeats 4000000 in
theorem b_X11_mode_0 {G : zG} {X : zX} (O : zOK G X cX11_mode 4 RX11 (some .boolean) "mode") (hR : X.R = rm_X11_mode) {M : zM} {n k : Nat} {a0 : Nat} {x1 : Int32} {x2 : Int32} (h : M.1 a0 = 11 ∧ zC G yX11_filterAt cX11_filterAt 2 (some (.object "HouseWires$Filter")) rm_X11_filterAt M [.ref a0, .int x1] (fun M1 v => (v = some .null ∧ X.q M1 (some (.int 0))) ∨ ∃ b2 : Nat, v = some (.ref b2) ∧ zC G yX11_isWithin cX11_isWithin 3 (some .boolean) rm_X11_isWithin M1 [.int x2, .int 0, .int 2] (fun M3 v => ∃ r4 : Int32, v = some (.int r4) ∧ (¬ r4 = 0 → M3.1 b2 = 3 ∧ ∀ M5 : zM, M5 = zi M3 b2 2 x2 → X.q M5 (some (.int 1))) ∧ (r4 = 0 → X.q M3 (some (.int 0)))))) : zW G X 4 M n k 0 [(0, .ref a0), (1, .int x1), (2, .int x2)] [] := by
  refine z_aload_n O dX11_mode_0 rfl 0 rfl ?_
  refine z_iload_n O dX11_mode_1 rfl 1 rfl ?_
  obtain ⟨hk, h⟩ := h
  refine z_callV0 (As := [.int x1]) O zc_X11_134 h hk rfl (zRm_of hR (by decide) (by decide)) (Nat.le_of_ble_eq_true rfl) dX11_mode_2 rfl rfl rfl (fun M1 v h => ?_)
  rcases h with ⟨rfl, h⟩ | ⟨b2, rfl, h⟩
  · skip
    refine z_astore_nN (lv' := [(3, .null), (0, .ref a0), (1, .int x1), (2, .int x2)]) O dX11_mode_5 rfl (by decide) rfl ?_
    refine z_aload_nN O dX11_mode_6 rfl 0 rfl ?_
    refine z_ifnullN O 19 dX11_mode_7 (by decide) ?_
    refine z_iconst (v := 0) O dX11_mode_19 rfl ?_
    exact z_zret O dX11_mode_20 (by decide) h
  · skip
    refine z_astore_n (lv' := [(3, .ref b2), (0, .ref a0), (1, .int x1), (2, .int x2)]) O dX11_mode_5 rfl (by decide) rfl ?_
    refine z_aload_n O dX11_mode_6 rfl 0 rfl ?_
    refine z_ifnull O dX11_mode_7 ?_
    refine z_iload_n O dX11_mode_10 rfl 3 rfl ?_
    refine z_iconst (v := 0) O dX11_mode_11 rfl ?_
    refine z_iconst (v := 2) O dX11_mode_12 rfl ?_
    refine z_callS0 (As := [.int x2, .int 0, .int 2]) O zc_X11_71 h rfl (zRm_of hR (by decide) (by decide)) (Nat.le_of_ble_eq_true rfl) dX11_mode_13 rfl rfl rfl (fun M3 v h => ?_)
    obtain ⟨r4, rfl, h⟩ := h
    refine z_if_ne O 21 dX11_mode_16 (by decide) (fun c => ?_) (fun c => ?_)
    · replace h := h.1 c
      refine z_aload_n O dX11_mode_21 rfl 0 rfl ?_
      refine z_iload_n O dX11_mode_22 rfl 3 rfl ?_
      obtain ⟨hk, h⟩ := h
      refine z_puti O zp_X11_138_2 dX11_mode_23 hk ?_
      generalize eM5 : zi M3 b2 2 x2 = M5
      replace h := h M5 eM5.symm
      refine z_iconst (v := 1) O dX11_mode_26 rfl ?_
      exact z_zret O dX11_mode_27 (by decide) h
    · replace h := h.2 c
      refine z_iconst (v := 0) O dX11_mode_19 rfl ?_
      exact z_zret O dX11_mode_20 (by decide) h
set_option maxRecDepth 100000 in
set_option maxHeartbeats 4000000 in
theorem b_X11_filterAt_0 {G : zG} {X : zX} (O : zOK G X cX11_filterAt 2 RX11 (some (.object "HouseWires$Filter")) "filterAt") (hR : X.R = rm_X11_filterAt) {M : zM} {n k : Nat} {a0 : Nat} {x1 : Int32} (h : M.1 a0 = 11 ∧ zC G yX11_isWithin cX11_isWithin 3 (some .boolean) rm_X11_isWithin M [.int x1, .int 0, .int ((M.2.2.1 a0 11) - 1)] (fun M1 v => ∃ r2 : Int32, v = some (.int r2) ∧ (r2 = 0 → X.q M1 (some .null)) ∧ (¬ r2 = 0 → M1.1 a0 = 11 ∧ ∃ b3 : Nat, M1.2.2.2 a0 3 = some b3 ∧ M1.1 b3 = 104 ∧ vp_in x1 (M1.2.1 b3) ∧ ∃ b4 : Nat, M1.2.2.2 b3 x1.toNatClampNeg = some b4 ∧ X.q M1 (some (.ref b4))))) : zW G X 2 M n k 0 [(0, .ref a0), (1, .int x1)] [] := by
  refine z_iload_n O dX11_filterAt_0 rfl 1 rfl ?_
  refine z_iconst (v := 0) O dX11_filterAt_1 rfl ?_
  refine z_aload_n O dX11_filterAt_2 rfl 0 rfl ?_
  obtain ⟨hk, h⟩ := h
  refine z_geti O zf_X11_113_10 dX11_filterAt_3 hk ?_
  refine z_iconst (v := 1) O dX11_filterAt_6 rfl ?_
  refine z_isub O dX11_filterAt_7 ?_
  refine z_callS0 (As := [.int x1, .int 0, .int ((M.2.2.1 a0 11) - 1)]) O zc_X11_71 h rfl (zRm_of hR (by decide) (by decide)) (Nat.le_of_ble_eq_true rfl) dX11_filterAt_8 rfl rfl rfl (fun M1 v h => ?_)
  obtain ⟨r2, rfl, h⟩ := h
  refine z_if_eq O 23 dX11_filterAt_11 (by decide) (fun c => ?_) (fun c => ?_)
  · replace h := h.1 c
    refine z_null O dX11_filterAt_23 ?_
    exact z_aretN O dX11_filterAt_24 h
  · replace h := h.2 c
    refine z_aload_n O dX11_filterAt_14 rfl 0 rfl ?_
    obtain ⟨hk, b3, hr, h⟩ := h
    refine z_getr O zf_X11_30_10 dX11_filterAt_15 hk hr ?_
    refine z_iload_n O dX11_filterAt_18 rfl 1 rfl ?_
    obtain ⟨hk, hi, b4, hr, h⟩ := h
    refine z_ald (t := 2) O rfl dX11_filterAt_19 hk hi hr ?_
    refine z_goto O 24 dX11_filterAt_20 (by decide) ?_
    exact z_aret O dX11_filterAt_24 h
set_option maxRecDepth 100000 in
set_option maxHeartbeats 4000000 in
theorem b_X11_filter_0 {G : zG} {X : zX} (O : zOK G X cX11_filter 5 RX11 (some .boolean) "filter") (hR : X.R = rm_X11_filter) {M : zM} {n k : Nat} {a0 : Nat} {x1 : Int32} {x2 : Int32} {x3 : Int32} (h : M.1 a0 = 11 ∧ zC G yX11_filterAt cX11_filterAt 2 (some (.object "HouseWires$Filter")) rm_X11_filterAt M [.ref a0, .int x1] (fun M1 v => (v = some .null ∧ X.q M1 (some (.int 0))) ∨ ∃ b2 : Nat, v = some (.ref b2) ∧ zC G yX11_isWithin cX11_isWithin 3 (some .boolean) rm_X11_isWithin M1 [.int x2, .int 1, .int 65535] (fun M3 v => ∃ r4 : Int32, v = some (.int r4) ∧ (¬ r4 = 0 → M3.1 b2 = 3 ∧ zC G yX2_change cX2_change 4 (some .boolean) rm_X2_change M3 [.ref b2, .int x2, .int x3] (fun M5 v => ∃ r6 : Int32, v = some (.int r6) ∧ (r6 = 0 ∨ r6 = 1) ∧ X.q M5 (some (.int r6)))) ∧ (r4 = 0 → X.q M3 (some (.int 0)))))) : zW G X 5 M n k 0 [(0, .ref a0), (1, .int x1), (2, .int x2), (3, .int x3)] [] := by
  refine z_aload_n O dX11_filter_0 rfl 0 rfl ?_
  refine z_iload_n O dX11_filter_1 rfl 1 rfl ?_
  obtain ⟨hk, h⟩ := h
  refine z_callV0 (As := [.int x1]) O zc_X11_134 h hk rfl (zRm_of hR (by decide) (by decide)) (Nat.le_of_ble_eq_true rfl) dX11_filter_2 rfl rfl rfl (fun M1 v h => ?_)
  rcases h with ⟨rfl, h⟩ | ⟨b2, rfl, h⟩
  · skip
    refine z_astoreN (lv' := [(4, .null), (0, .ref a0), (1, .int x1), (2, .int x2), (3, .int x3)]) O dX11_filter_5 (by decide) rfl ?_
    refine z_aloadN O dX11_filter_7 0 rfl ?_
    refine z_ifnullN O 22 dX11_filter_9 (by decide) ?_
    refine z_iconst (v := 0) O dX11_filter_22 rfl ?_
    exact z_zret O dX11_filter_23 (by decide) h
  · skip
    refine z_astore (lv' := [(4, .ref b2), (0, .ref a0), (1, .int x1), (2, .int x2), (3, .int x3)]) O dX11_filter_5 (by decide) rfl ?_
    refine z_aload O dX11_filter_7 0 rfl ?_
    refine z_ifnull O dX11_filter_9 ?_
    refine z_iload_n O dX11_filter_12 rfl 3 rfl ?_
    refine z_iconst (v := 1) O dX11_filter_13 rfl ?_
    refine z_ldc O dX11_filter_14 zk_X11_141 ?_
    refine z_callS0 (As := [.int x2, .int 1, .int 65535]) O zc_X11_71 h rfl (zRm_of hR (by decide) (by decide)) (Nat.le_of_ble_eq_true rfl) dX11_filter_16 rfl rfl rfl (fun M3 v h => ?_)
    obtain ⟨r4, rfl, h⟩ := h
    refine z_if_ne O 24 dX11_filter_19 (by decide) (fun c => ?_) (fun c => ?_)
    · replace h := h.1 c
      refine z_aload O dX11_filter_24 0 rfl ?_
      refine z_iload_n O dX11_filter_26 rfl 3 rfl ?_
      refine z_iload_n O dX11_filter_27 rfl 4 rfl ?_
      obtain ⟨hk, h⟩ := h
      refine z_callV0 (As := [.int x2, .int x3]) O zc_X11_142 h hk rfl (zRm_of hR (by decide) (by decide)) (Nat.le_of_ble_eq_true rfl) dX11_filter_28 rfl rfl rfl (fun M5 v h => ?_)
      obtain ⟨r6, rfl, h⟩ := h
      exact z_zret O dX11_filter_31 h.1 h.2
    · replace h := h.2 c
      refine z_iconst (v := 0) O dX11_filter_22 rfl ?_
      exact z_zret O dX11_filter_23 (by decide) h
set_option maxRecDepth 100000 in
set_option maxHeartbeats 4000000 in
theorem b_X11_object_0 {G : zG} {X : zX} (O : zOK G X cX11_object 6 RX11 (some .int) "object") (hR : X.R = rm_X11_object) {M : zM} {n k : Nat} {a0 : Nat} {x1 : Int32} {x2 : Int32} {x3 : Int32} {x4 : Int32} (h : M.1 a0 = 11 ∧ zC G yX11_deviceAt cX11_deviceAt 2 (some (.object "HouseWires$Device")) rm_X11_deviceAt M [.ref a0, .int x1] (fun M1 v => (v = some .null ∧ X.q M1 (some (.int (-1)))) ∨ ∃ b2 : Nat, v = some (.ref b2) ∧ False)) : zW G X 6 M n k 0 [(0, .ref a0), (1, .int x1), (2, .int x2), (3, .int x3), (4, .int x4)] [] := by
  refine z_aload_n O dX11_object_0 rfl 0 rfl ?_
  refine z_iload_n O dX11_object_1 rfl 1 rfl ?_
  obtain ⟨hk, h⟩ := h
  refine z_callV0 (As := [.int x1]) O zc_X11_146 h hk rfl (zRm_of hR (by decide) (by decide)) (Nat.le_of_ble_eq_true rfl) dX11_object_2 rfl rfl rfl (fun M1 v h => ?_)
  rcases h with ⟨rfl, h⟩ | ⟨b2, rfl, h⟩
  · skip
    refine z_astoreN (lv' := [(5, .null), (0, .ref a0), (1, .int x1), (2, .int x2), (3, .int x3), (4, .int x4)]) O dX11_object_5 (by decide) rfl ?_
    refine z_aloadN O dX11_object_7 0 rfl ?_
    refine z_ifnullN O 46 dX11_object_9 (by decide) ?_
    refine z_iconst (v := (-1)) O dX11_object_46 rfl ?_
    exact z_iret O dX11_object_47 h
  · skip
    refine z_astore (lv' := [(5, .ref b2), (0, .ref a0), (1, .int x1), (2, .int x2), (3, .int x3), (4, .int x4)]) O dX11_object_5 (by decide) rfl ?_
    refine z_aload O dX11_object_7 0 rfl ?_
    refine z_ifnull O dX11_object_9 ?_
    refine z_iload_n O dX11_object_12 rfl 3 rfl ?_
    refine z_iconst (v := 0) O dX11_object_13 rfl ?_
    exact False.elim h
set_option maxRecDepth 100000 in
set_option maxHeartbeats 4000000 in
theorem b_X11_deviceAt_0 {G : zG} {X : zX} (O : zOK G X cX11_deviceAt 2 RX11 (some (.object "HouseWires$Device")) "deviceAt") (hR : X.R = rm_X11_deviceAt) {M : zM} {n k : Nat} {a0 : Nat} {x1 : Int32} (h : M.1 a0 = 11 ∧ zC G yX11_isWithin cX11_isWithin 3 (some .boolean) rm_X11_isWithin M [.int x1, .int 0, .int ((M.2.2.1 a0 10) - 1)] (fun M1 v => ∃ r2 : Int32, v = some (.int r2) ∧ (r2 = 0 → X.q M1 (some .null)) ∧ (¬ r2 = 0 → M1.1 a0 = 11 ∧ ∃ b3 : Nat, M1.2.2.2 a0 2 = some b3 ∧ M1.1 b3 = 103 ∧ vp_in x1 (M1.2.1 b3) ∧ ∃ b4 : Nat, M1.2.2.2 b3 x1.toNatClampNeg = some b4 ∧ X.q M1 (some (.ref b4))))) : zW G X 2 M n k 0 [(0, .ref a0), (1, .int x1)] [] := by
  refine z_iload_n O dX11_deviceAt_0 rfl 1 rfl ?_
  refine z_iconst (v := 0) O dX11_deviceAt_1 rfl ?_
  refine z_aload_n O dX11_deviceAt_2 rfl 0 rfl ?_
  obtain ⟨hk, h⟩ := h
  refine z_geti O zf_X11_86_10 dX11_deviceAt_3 hk ?_
  refine z_iconst (v := 1) O dX11_deviceAt_6 rfl ?_
  refine z_isub O dX11_deviceAt_7 ?_
  refine z_callS0 (As := [.int x1, .int 0, .int ((M.2.2.1 a0 10) - 1)]) O zc_X11_71 h rfl (zRm_of hR (by decide) (by decide)) (Nat.le_of_ble_eq_true rfl) dX11_deviceAt_8 rfl rfl rfl (fun M1 v h => ?_)
  obtain ⟨r2, rfl, h⟩ := h
  refine z_if_eq O 23 dX11_deviceAt_11 (by decide) (fun c => ?_) (fun c => ?_)
  · replace h := h.1 c
    refine z_null O dX11_deviceAt_23 ?_
    exact z_aretN O dX11_deviceAt_24 h
  · replace h := h.2 c
    refine z_aload_n O dX11_deviceAt_14 rfl 0 rfl ?_
    obtain ⟨hk, b3, hr, h⟩ := h
    refine z_getr O zf_X11_24_10 dX11_deviceAt_15 hk hr ?_
    refine z_iload_n O dX11_deviceAt_18 rfl 1 rfl ?_
    obtain ⟨hk, hi, b4, hr, h⟩ := h
    refine z_ald (t := 1) O rfl dX11_deviceAt_19 hk hi hr ?_
    refine z_goto O 24 dX11_deviceAt_20 (by decide) ?_
    exact z_aret O dX11_deviceAt_24 h
set_option maxRecDepth 100000 in
set_option maxHeartbeats 4000000 in
theorem b_X11_flags_0 {G : zG} {X : zX} (O : zOK G X cX11_flags 5 RX11 (some .boolean) "flags") (hR : X.R = rm_X11_flags) {M : zM} {n k : Nat} {a0 : Nat} {x1 : Int32} {x2 : Int32} {x3 : Int32} (h : M.1 a0 = 11 ∧ zC G yX11_objectAt cX11_objectAt 4 (some (.object "HouseWires$GroupObject")) rm_X11_objectAt M [.ref a0, .int x1, .int x2] (fun M1 v => (v = some .null ∧ X.q M1 (some (.int 0))) ∨ ∃ b2 : Nat, v = some (.ref b2) ∧ zC G yX11_isWithin cX11_isWithin 3 (some .boolean) rm_X11_isWithin M1 [.int x3, .int 0, .int 31] (fun M3 v => ∃ r4 : Int32, v = some (.int r4) ∧ (¬ r4 = 0 → M3.1 b2 = 4 ∧ ∀ M5 : zM, M5 = zi M3 b2 2 x3 → X.q M5 (some (.int 1))) ∧ (r4 = 0 → X.q M3 (some (.int 0)))))) : zW G X 5 M n k 0 [(0, .ref a0), (1, .int x1), (2, .int x2), (3, .int x3)] [] := by
  refine z_aload_n O dX11_flags_0 rfl 0 rfl ?_
  refine z_iload_n O dX11_flags_1 rfl 1 rfl ?_
  refine z_iload_n O dX11_flags_2 rfl 2 rfl ?_
  obtain ⟨hk, h⟩ := h
  refine z_callV0 (As := [.int x1, .int x2]) O zc_X11_157 h hk rfl (zRm_of hR (by decide) (by decide)) (Nat.le_of_ble_eq_true rfl) dX11_flags_3 rfl rfl rfl (fun M1 v h => ?_)
  rcases h with ⟨rfl, h⟩ | ⟨b2, rfl, h⟩
  · skip
    refine z_astoreN (lv' := [(4, .null), (0, .ref a0), (1, .int x1), (2, .int x2), (3, .int x3)]) O dX11_flags_6 (by decide) rfl ?_
    refine z_aloadN O dX11_flags_8 0 rfl ?_
    refine z_ifnullN O 23 dX11_flags_10 (by decide) ?_
    refine z_iconst (v := 0) O dX11_flags_23 rfl ?_
    exact z_zret O dX11_flags_24 (by decide) h
  · skip
    refine z_astore (lv' := [(4, .ref b2), (0, .ref a0), (1, .int x1), (2, .int x2), (3, .int x3)]) O dX11_flags_6 (by decide) rfl ?_
    refine z_aload O dX11_flags_8 0 rfl ?_
    refine z_ifnull O dX11_flags_10 ?_
    refine z_iload_n O dX11_flags_13 rfl 4 rfl ?_
    refine z_iconst (v := 0) O dX11_flags_14 rfl ?_
    refine z_bipush (v := 31) O dX11_flags_15 rfl ?_
    refine z_callS0 (As := [.int x3, .int 0, .int 31]) O zc_X11_71 h rfl (zRm_of hR (by decide) (by decide)) (Nat.le_of_ble_eq_true rfl) dX11_flags_17 rfl rfl rfl (fun M3 v h => ?_)
    obtain ⟨r4, rfl, h⟩ := h
    refine z_if_ne O 25 dX11_flags_20 (by decide) (fun c => ?_) (fun c => ?_)
    · replace h := h.1 c
      refine z_aload O dX11_flags_25 0 rfl ?_
      refine z_iload_n O dX11_flags_27 rfl 4 rfl ?_
      obtain ⟨hk, h⟩ := h
      refine z_puti O zp_X11_161_3 dX11_flags_28 hk ?_
      generalize eM5 : zi M3 b2 2 x3 = M5
      replace h := h M5 eM5.symm
      refine z_iconst (v := 1) O dX11_flags_31 rfl ?_
      exact z_zret O dX11_flags_32 (by decide) h
    · replace h := h.2 c
      refine z_iconst (v := 0) O dX11_flags_23 rfl ?_
      exact z_zret O dX11_flags_24 (by decide) h
set_option maxRecDepth 100000 in
set_option maxHeartbeats 4000000 in
theorem b_X11_objectAt_0 {G : zG} {X : zX} (O : zOK G X cX11_objectAt 4 RX11 (some (.object "HouseWires$GroupObject")) "objectAt") (hR : X.R = rm_X11_objectAt) {M : zM} {n k : Nat} {a0 : Nat} {x1 : Int32} {x2 : Int32} (h : M.1 a0 = 11 ∧ zC G yX11_deviceAt cX11_deviceAt 2 (some (.object "HouseWires$Device")) rm_X11_deviceAt M [.ref a0, .int x1] (fun M1 v => (v = some .null ∧ X.q M1 (some .null)) ∨ ∃ b2 : Nat, v = some (.ref b2) ∧ M1.1 b2 = 2 ∧ zC G yX1_findObject cX1_findObject 2 (some (.object "HouseWires$GroupObject")) rm_X1_findObject M1 [.ref b2, .int x2] (fun M3 v => (v = some .null ∧ X.q M3 (some .null)) ∨ ∃ b4 : Nat, v = some (.ref b4) ∧ X.q M3 (some (.ref b4))))) : zW G X 4 M n k 0 [(0, .ref a0), (1, .int x1), (2, .int x2)] [] := by
  refine z_aload_n O dX11_objectAt_0 rfl 0 rfl ?_
  refine z_iload_n O dX11_objectAt_1 rfl 1 rfl ?_
  obtain ⟨hk, h⟩ := h
  refine z_callV0 (As := [.int x1]) O zc_X11_146 h hk rfl (zRm_of hR (by decide) (by decide)) (Nat.le_of_ble_eq_true rfl) dX11_objectAt_2 rfl rfl rfl (fun M1 v h => ?_)
  rcases h with ⟨rfl, h⟩ | ⟨b2, rfl, h⟩
  · skip
    refine z_astore_nN (lv' := [(3, .null), (0, .ref a0), (1, .int x1), (2, .int x2)]) O dX11_objectAt_5 rfl (by decide) rfl ?_
    refine z_aload_nN O dX11_objectAt_6 rfl 0 rfl ?_
    refine z_ifnonnullN O dX11_objectAt_7 ?_
    refine z_null O dX11_objectAt_10 ?_
    refine z_goto O 19 dX11_objectAt_11 (by decide) ?_
    exact z_aretN O dX11_objectAt_19 h
  · skip
    refine z_astore_n (lv' := [(3, .ref b2), (0, .ref a0), (1, .int x1), (2, .int x2)]) O dX11_objectAt_5 rfl (by decide) rfl ?_
    refine z_aload_n O dX11_objectAt_6 rfl 0 rfl ?_
    refine z_ifnonnull O 14 dX11_objectAt_7 (by decide) ?_
    refine z_aload_n O dX11_objectAt_14 rfl 0 rfl ?_
    refine z_iload_n O dX11_objectAt_15 rfl 3 rfl ?_
    obtain ⟨hk, h⟩ := h
    refine z_callV0 (As := [.int x2]) O zc_X11_327 h hk rfl (zRm_of hR (by decide) (by decide)) (Nat.le_of_ble_eq_true rfl) dX11_objectAt_16 rfl rfl rfl (fun M3 v h => ?_)
    rcases h with ⟨rfl, h⟩ | ⟨b4, rfl, h⟩
    · skip
      exact z_aretN O dX11_objectAt_19 h
    · skip
      exact z_aret O dX11_objectAt_19 h
set_option maxRecDepth 100000 in
set_option maxHeartbeats 4000000 in
theorem b_X11_link_0 {G : zG} {X : zX} (O : zOK G X cX11_link 5 RX11 (some .boolean) "link") (hR : X.R = rm_X11_link) {M : zM} {n k : Nat} {a0 : Nat} {x1 : Int32} {x2 : Int32} {x3 : Int32} (h : M.1 a0 = 11 ∧ zC G yX11_deviceAt cX11_deviceAt 2 (some (.object "HouseWires$Device")) rm_X11_deviceAt M [.ref a0, .int x1] (fun M1 v => (v = some .null ∧ X.q M1 (some (.int 0))) ∨ ∃ b2 : Nat, v = some (.ref b2) ∧ zC G yX11_isWithin cX11_isWithin 3 (some .boolean) rm_X11_isWithin M1 [.int x3, .int 1, .int 65535] (fun M3 v => ∃ r4 : Int32, v = some (.int r4) ∧ (r4 = 0 → X.q M3 (some (.int 0))) ∧ (¬ r4 = 0 → M3.1 b2 = 2 ∧ zC G yX1_addLink cX1_addLink 4 (some .boolean) rm_X1_addLink M3 [.ref b2, .int x2, .int x3] (fun M5 v => ∃ r6 : Int32, v = some (.int r6) ∧ (r6 = 0 → X.q M5 (some (.int 0))) ∧ (¬ r6 = 0 → X.q M5 (some (.int 1)))))))) : zW G X 5 M n k 0 [(0, .ref a0), (1, .int x1), (2, .int x2), (3, .int x3)] [] := by
  refine z_aload_n O dX11_link_0 rfl 0 rfl ?_
  refine z_iload_n O dX11_link_1 rfl 1 rfl ?_
  obtain ⟨hk, h⟩ := h
  refine z_callV0 (As := [.int x1]) O zc_X11_146 h hk rfl (zRm_of hR (by decide) (by decide)) (Nat.le_of_ble_eq_true rfl) dX11_link_2 rfl rfl rfl (fun M1 v h => ?_)
  rcases h with ⟨rfl, h⟩ | ⟨b2, rfl, h⟩
  · skip
    refine z_astoreN (lv' := [(4, .null), (0, .ref a0), (1, .int x1), (2, .int x2), (3, .int x3)]) O dX11_link_5 (by decide) rfl ?_
    refine z_aloadN O dX11_link_7 0 rfl ?_
    refine z_ifnullN O 36 dX11_link_9 (by decide) ?_
    refine z_iconst (v := 0) O dX11_link_36 rfl ?_
    exact z_zret O dX11_link_37 (by decide) h
  · skip
    refine z_astore (lv' := [(4, .ref b2), (0, .ref a0), (1, .int x1), (2, .int x2), (3, .int x3)]) O dX11_link_5 (by decide) rfl ?_
    refine z_aload O dX11_link_7 0 rfl ?_
    refine z_ifnull O dX11_link_9 ?_
    refine z_iload_n O dX11_link_12 rfl 4 rfl ?_
    refine z_iconst (v := 1) O dX11_link_13 rfl ?_
    refine z_ldc O dX11_link_14 zk_X11_141 ?_
    refine z_callS0 (As := [.int x3, .int 1, .int 65535]) O zc_X11_71 h rfl (zRm_of hR (by decide) (by decide)) (Nat.le_of_ble_eq_true rfl) dX11_link_16 rfl rfl rfl (fun M3 v h => ?_)
    obtain ⟨r4, rfl, h⟩ := h
    refine z_if_eq O 36 dX11_link_19 (by decide) (fun c => ?_) (fun c => ?_)
    · replace h := h.1 c
      refine z_iconst (v := 0) O dX11_link_36 rfl ?_
      exact z_zret O dX11_link_37 (by decide) h
    · replace h := h.2 c
      refine z_aload O dX11_link_22 0 rfl ?_
      refine z_iload_n O dX11_link_24 rfl 3 rfl ?_
      refine z_iload_n O dX11_link_25 rfl 4 rfl ?_
      obtain ⟨hk, h⟩ := h
      refine z_callV0 (As := [.int x2, .int x3]) O zc_X11_166 h hk rfl (zRm_of hR (by decide) (by decide)) (Nat.le_of_ble_eq_true rfl) dX11_link_26 rfl rfl rfl (fun M5 v h => ?_)
      obtain ⟨r6, rfl, h⟩ := h
      refine z_if_eq O 36 dX11_link_29 (by decide) (fun c => ?_) (fun c => ?_)
      · replace h := h.1 c
        refine z_iconst (v := 0) O dX11_link_36 rfl ?_
        exact z_zret O dX11_link_37 (by decide) h
      · replace h := h.2 c
        refine z_iconst (v := 1) O dX11_link_32 rfl ?_
        refine z_goto O 37 dX11_link_33 (by decide) ?_
        exact z_zret O dX11_link_37 (by decide) h
set_option maxRecDepth 100000 in
set_option maxHeartbeats 4000000 in
theorem b_X11_set_0 {G : zG} {X : zX} (O : zOK G X cX11_set 5 RX11 (some .int) "set") (hR : X.R = rm_X11_set) {M : zM} {n k : Nat} {a0 : Nat} {x1 : Int32} {x2 : Int32} {x3 : Int32} (h : M.1 a0 = 11 ∧ zC G yX11_deviceAt cX11_deviceAt 2 (some (.object "HouseWires$Device")) rm_X11_deviceAt M [.ref a0, .int x1] (fun M1 v => (v = some .null ∧ X.q M1 (some (.int (-1)))) ∨ ∃ b2 : Nat, v = some (.ref b2) ∧ M1.1 b2 = 2 ∧ zC G yX1_changeObject cX1_changeObject 6 (some .int) rm_X1_changeObject M1 [.ref b2, .int x2, .int x3] (fun M3 v => ∃ r4 : Int32, v = some (.int r4) ∧ X.q M3 (some (.int r4))))) : zW G X 5 M n k 0 [(0, .ref a0), (1, .int x1), (2, .int x2), (3, .int x3)] [] := by
  refine z_aload_n O dX11_set_0 rfl 0 rfl ?_
  refine z_iload_n O dX11_set_1 rfl 1 rfl ?_
  obtain ⟨hk, h⟩ := h
  refine z_callV0 (As := [.int x1]) O zc_X11_146 h hk rfl (zRm_of hR (by decide) (by decide)) (Nat.le_of_ble_eq_true rfl) dX11_set_2 rfl rfl rfl (fun M1 v h => ?_)
  rcases h with ⟨rfl, h⟩ | ⟨b2, rfl, h⟩
  · skip
    refine z_astoreN (lv' := [(4, .null), (0, .ref a0), (1, .int x1), (2, .int x2), (3, .int x3)]) O dX11_set_5 (by decide) rfl ?_
    refine z_aloadN O dX11_set_7 0 rfl ?_
    refine z_ifnonnullN O dX11_set_9 ?_
    refine z_iconst (v := (-1)) O dX11_set_12 rfl ?_
    refine z_goto O 23 dX11_set_13 (by decide) ?_
    exact z_iret O dX11_set_23 h
  · skip
    refine z_astore (lv' := [(4, .ref b2), (0, .ref a0), (1, .int x1), (2, .int x2), (3, .int x3)]) O dX11_set_5 (by decide) rfl ?_
    refine z_aload O dX11_set_7 0 rfl ?_
    refine z_ifnonnull O 16 dX11_set_9 (by decide) ?_
    refine z_aload O dX11_set_16 0 rfl ?_
    refine z_iload_n O dX11_set_18 rfl 3 rfl ?_
    refine z_iload_n O dX11_set_19 rfl 4 rfl ?_
    obtain ⟨hk, h⟩ := h
    refine z_callV0 (As := [.int x2, .int x3]) O zc_X11_170 h hk rfl (zRm_of hR (by decide) (by decide)) (Nat.le_of_ble_eq_true rfl) dX11_set_20 rfl rfl rfl (fun M3 v h => ?_)
    obtain ⟨r4, rfl, h⟩ := h
    exact z_iret O dX11_set_23 h
set_option maxRecDepth 100000 in
set_option maxHeartbeats 4000000 in
theorem b_X11_ask_0 {G : zG} {X : zX} (O : zOK G X cX11_ask 4 RX11 (some .int) "ask") (hR : X.R = rm_X11_ask) {M : zM} {n k : Nat} {a0 : Nat} {x1 : Int32} {x2 : Int32} (h : M.1 a0 = 11 ∧ zC G yX11_deviceAt cX11_deviceAt 2 (some (.object "HouseWires$Device")) rm_X11_deviceAt M [.ref a0, .int x1] (fun M1 v => (v = some .null ∧ X.q M1 (some (.int (-1)))) ∨ ∃ b2 : Nat, v = some (.ref b2) ∧ M1.1 b2 = 2 ∧ zC G yX1_askGroup cX1_askGroup 4 (some .int) rm_X1_askGroup M1 [.ref b2, .int x2] (fun M3 v => ∃ r4 : Int32, v = some (.int r4) ∧ X.q M3 (some (.int r4))))) : zW G X 4 M n k 0 [(0, .ref a0), (1, .int x1), (2, .int x2)] [] := by
  refine z_aload_n O dX11_ask_0 rfl 0 rfl ?_
  refine z_iload_n O dX11_ask_1 rfl 1 rfl ?_
  obtain ⟨hk, h⟩ := h
  refine z_callV0 (As := [.int x1]) O zc_X11_146 h hk rfl (zRm_of hR (by decide) (by decide)) (Nat.le_of_ble_eq_true rfl) dX11_ask_2 rfl rfl rfl (fun M1 v h => ?_)
  rcases h with ⟨rfl, h⟩ | ⟨b2, rfl, h⟩
  · skip
    refine z_astore_nN (lv' := [(3, .null), (0, .ref a0), (1, .int x1), (2, .int x2)]) O dX11_ask_5 rfl (by decide) rfl ?_
    refine z_aload_nN O dX11_ask_6 rfl 0 rfl ?_
    refine z_ifnonnullN O dX11_ask_7 ?_
    refine z_iconst (v := (-1)) O dX11_ask_10 rfl ?_
    refine z_goto O 19 dX11_ask_11 (by decide) ?_
    exact z_iret O dX11_ask_19 h
  · skip
    refine z_astore_n (lv' := [(3, .ref b2), (0, .ref a0), (1, .int x1), (2, .int x2)]) O dX11_ask_5 rfl (by decide) rfl ?_
    refine z_aload_n O dX11_ask_6 rfl 0 rfl ?_
    refine z_ifnonnull O 14 dX11_ask_7 (by decide) ?_
    refine z_aload_n O dX11_ask_14 rfl 0 rfl ?_
    refine z_iload_n O dX11_ask_15 rfl 3 rfl ?_
    obtain ⟨hk, h⟩ := h
    refine z_callV0 (As := [.int x2]) O zc_X11_174 h hk rfl (zRm_of hR (by decide) (by decide)) (Nat.le_of_ble_eq_true rfl) dX11_ask_16 rfl rfl rfl (fun M3 v h => ?_)
    obtain ⟨r4, rfl, h⟩ := h
    exact z_iret O dX11_ask_19 h
set_option maxRecDepth 100000 in
set_option maxHeartbeats 4000000 in
theorem b_X11_value_0 {G : zG} {X : zX} (O : zOK G X cX11_value 4 RX11 (some .long) "value") (hR : X.R = rm_X11_value) {M : zM} {n k : Nat} {a0 : Nat} {x1 : Int32} {x2 : Int32} (h : M.1 a0 = 11 ∧ zC G yX11_objectAt cX11_objectAt 4 (some (.object "HouseWires$GroupObject")) rm_X11_objectAt M [.ref a0, .int x1, .int x2] (fun M1 v => (v = some .null ∧ X.q M1 (some (.long (-1)))) ∨ ∃ b2 : Nat, v = some (.ref b2) ∧ M1.1 b2 = 4 ∧ X.q M1 (some (.long ((Int32.toInt64 (M1.2.2.1 b2 3)) &&& 4294967295))))) : zW G X 4 M n k 0 [(0, .ref a0), (1, .int x1), (2, .int x2)] [] := by
  refine z_aload_n O dX11_value_0 rfl 0 rfl ?_
  refine z_iload_n O dX11_value_1 rfl 1 rfl ?_
  refine z_iload_n O dX11_value_2 rfl 2 rfl ?_
  obtain ⟨hk, h⟩ := h
  refine z_callV0 (As := [.int x1, .int x2]) O zc_X11_157 h hk rfl (zRm_of hR (by decide) (by decide)) (Nat.le_of_ble_eq_true rfl) dX11_value_3 rfl rfl rfl (fun M1 v h => ?_)
  rcases h with ⟨rfl, h⟩ | ⟨b2, rfl, h⟩
  · skip
    refine z_astore_nN (lv' := [(3, .null), (0, .ref a0), (1, .int x1), (2, .int x2)]) O dX11_value_6 rfl (by decide) rfl ?_
    refine z_aload_nN O dX11_value_7 rfl 0 rfl ?_
    refine z_ifnonnullN O dX11_value_8 ?_
    refine z_ldc2_w O dX11_value_11 zk_X11_177 ?_
    refine z_goto O 26 dX11_value_14 (by decide) ?_
    exact z_lret O dX11_value_26 h
  · skip
    refine z_astore_n (lv' := [(3, .ref b2), (0, .ref a0), (1, .int x1), (2, .int x2)]) O dX11_value_6 rfl (by decide) rfl ?_
    refine z_aload_n O dX11_value_7 rfl 0 rfl ?_
    refine z_ifnonnull O 17 dX11_value_8 (by decide) ?_
    refine z_aload_n O dX11_value_17 rfl 0 rfl ?_
    obtain ⟨hk, h⟩ := h
    refine z_geti O zf_X11_179_3 dX11_value_18 hk ?_
    refine z_i2l O dX11_value_21 ?_
    refine z_ldc2_w O dX11_value_22 zk_X11_182 ?_
    refine z_land O dX11_value_25 ?_
    exact z_lret O dX11_value_26 h
set_option maxRecDepth 100000 in
set_option maxHeartbeats 4000000 in
theorem b_X11_updated_0 {G : zG} {X : zX} (O : zOK G X cX11_updated 4 RX11 (some .int) "updated") (hR : X.R = rm_X11_updated) {M : zM} {n k : Nat} {a0 : Nat} {x1 : Int32} {x2 : Int32} (h : M.1 a0 = 11 ∧ zC G yX11_objectAt cX11_objectAt 4 (some (.object "HouseWires$GroupObject")) rm_X11_objectAt M [.ref a0, .int x1, .int x2] (fun M1 v => (v = some .null ∧ X.q M1 (some (.int (-1)))) ∨ ∃ b2 : Nat, v = some (.ref b2) ∧ M1.1 b2 = 4 ∧ X.q M1 (some (.int (M1.2.2.1 b2 4))))) : zW G X 4 M n k 0 [(0, .ref a0), (1, .int x1), (2, .int x2)] [] := by
  refine z_aload_n O dX11_updated_0 rfl 0 rfl ?_
  refine z_iload_n O dX11_updated_1 rfl 1 rfl ?_
  refine z_iload_n O dX11_updated_2 rfl 2 rfl ?_
  obtain ⟨hk, h⟩ := h
  refine z_callV0 (As := [.int x1, .int x2]) O zc_X11_157 h hk rfl (zRm_of hR (by decide) (by decide)) (Nat.le_of_ble_eq_true rfl) dX11_updated_3 rfl rfl rfl (fun M1 v h => ?_)
  rcases h with ⟨rfl, h⟩ | ⟨b2, rfl, h⟩
  · skip
    refine z_astore_nN (lv' := [(3, .null), (0, .ref a0), (1, .int x1), (2, .int x2)]) O dX11_updated_6 rfl (by decide) rfl ?_
    refine z_aload_nN O dX11_updated_7 rfl 0 rfl ?_
    refine z_ifnonnullN O dX11_updated_8 ?_
    refine z_iconst (v := (-1)) O dX11_updated_11 rfl ?_
    refine z_goto O 19 dX11_updated_12 (by decide) ?_
    exact z_iret O dX11_updated_19 h
  · skip
    refine z_astore_n (lv' := [(3, .ref b2), (0, .ref a0), (1, .int x1), (2, .int x2)]) O dX11_updated_6 rfl (by decide) rfl ?_
    refine z_aload_n O dX11_updated_7 rfl 0 rfl ?_
    refine z_ifnonnull O 15 dX11_updated_8 (by decide) ?_
    refine z_aload_n O dX11_updated_15 rfl 0 rfl ?_
    obtain ⟨hk, h⟩ := h
    refine z_geti O zf_X11_184_3 dX11_updated_16 hk ?_
    exact z_iret O dX11_updated_19 h
set_option maxRecDepth 100000 in
set_option maxHeartbeats 4000000 in
theorem b_X11_hundredths_0 {G : zG} {X : zX} (O : zOK G X cX11_hundredths 8 RX11 (some .long) "hundredths") (hR : X.R = rm_X11_hundredths) {M : zM} {n k : Nat} {a0 : Nat} {x1 : Int32} {x2 : Int32} (h : M.1 a0 = 11 ∧ zC G yX11_objectAt cX11_objectAt 4 (some (.object "HouseWires$GroupObject")) rm_X11_objectAt M [.ref a0, .int x1, .int x2] (fun M1 v => (v = some .null ∧ X.q M1 (some (.long (-9223372036854775808)))) ∨ ∃ b2 : Nat, v = some (.ref b2) ∧ M1.1 b2 = 4 ∧ ((M1.2.2.1 b2 0) = 16 → M1.1 b2 = 4 ∧ ∀ y3 : Int32, y3 = (((M1.2.2.1 b2 3) >>> (15 &&& 31)) &&& 1) → M1.1 b2 = 4 ∧ ∀ y4 : Int32, y4 = (((M1.2.2.1 b2 3) >>> (11 &&& 31)) &&& 15) → M1.1 b2 = 4 ∧ ∀ y5 : Int64, y5 = (Int32.toInt64 (((M1.2.2.1 b2 3) &&& 2047) - (2048 * y3))) → X.q M1 (some (.long (y5 * (1 <<< (Int32.toInt64 y4 &&& 63)))))) ∧ (¬ (M1.2.2.1 b2 0) = 16 → X.q M1 (some (.long (-9223372036854775808)))))) : zW G X 8 M n k 0 [(0, .ref a0), (1, .int x1), (2, .int x2)] [] := by
  refine z_aload_n O dX11_hundredths_0 rfl 0 rfl ?_
  refine z_iload_n O dX11_hundredths_1 rfl 1 rfl ?_
  refine z_iload_n O dX11_hundredths_2 rfl 2 rfl ?_
  obtain ⟨hk, h⟩ := h
  refine z_callV0 (As := [.int x1, .int x2]) O zc_X11_157 h hk rfl (zRm_of hR (by decide) (by decide)) (Nat.le_of_ble_eq_true rfl) dX11_hundredths_3 rfl rfl rfl (fun M1 v h => ?_)
  rcases h with ⟨rfl, h⟩ | ⟨b2, rfl, h⟩
  · skip
    refine z_astore_nN (lv' := [(3, .null), (0, .ref a0), (1, .int x1), (2, .int x2)]) O dX11_hundredths_6 rfl (by decide) rfl ?_
    refine z_aload_nN O dX11_hundredths_7 rfl 0 rfl ?_
    refine z_ifnullN O 20 dX11_hundredths_8 (by decide) ?_
    refine z_ldc2_w O dX11_hundredths_20 zk_X11_192 ?_
    exact z_lret O dX11_hundredths_23 h
  · skip
    refine z_astore_n (lv' := [(3, .ref b2), (0, .ref a0), (1, .int x1), (2, .int x2)]) O dX11_hundredths_6 rfl (by decide) rfl ?_
    refine z_aload_n O dX11_hundredths_7 rfl 0 rfl ?_
    refine z_ifnull O dX11_hundredths_8 ?_
    refine z_aload_n O dX11_hundredths_11 rfl 0 rfl ?_
    obtain ⟨hk, h⟩ := h
    refine z_geti O zf_X11_187_3 dX11_hundredths_12 hk ?_
    refine z_bipush (v := 16) O dX11_hundredths_15 rfl ?_
    refine z_icmp_eq O 24 dX11_hundredths_17 (by decide) (fun c => ?_) (fun c => ?_)
    · replace h := h.1 c
      refine z_aload_n O dX11_hundredths_24 rfl 0 rfl ?_
      obtain ⟨hk, h⟩ := h
      refine z_geti O zf_X11_179_3 dX11_hundredths_25 hk ?_
      refine z_bipush (v := 15) O dX11_hundredths_28 rfl ?_
      refine z_ishr O dX11_hundredths_30 ?_
      refine z_iconst (v := 1) O dX11_hundredths_31 rfl ?_
      refine z_iand O dX11_hundredths_32 ?_
      refine z_topi (fun y3 ey3 => ?_)
      replace h := h y3 ey3
      refine z_istore (lv' := [(4, .int y3), (3, .ref b2), (0, .ref a0), (1, .int x1), (2, .int x2)]) O dX11_hundredths_33 (by decide) rfl ?_
      refine z_aload_n O dX11_hundredths_35 rfl 1 rfl ?_
      obtain ⟨hk, h⟩ := h
      refine z_geti O zf_X11_179_3 dX11_hundredths_36 hk ?_
      refine z_bipush (v := 11) O dX11_hundredths_39 rfl ?_
      refine z_ishr O dX11_hundredths_41 ?_
      refine z_bipush (v := 15) O dX11_hundredths_42 rfl ?_
      refine z_iand O dX11_hundredths_44 ?_
      refine z_topi (fun y4 ey4 => ?_)
      replace h := h y4 ey4
      refine z_istore (lv' := [(5, .int y4), (4, .int y3), (3, .ref b2), (0, .ref a0), (1, .int x1), (2, .int x2)]) O dX11_hundredths_45 (by decide) rfl ?_
      refine z_aload_n O dX11_hundredths_47 rfl 2 rfl ?_
      obtain ⟨hk, h⟩ := h
      refine z_geti O zf_X11_179_3 dX11_hundredths_48 hk ?_
      refine z_sipush (v := 2047) O dX11_hundredths_51 rfl ?_
      refine z_iand O dX11_hundredths_54 ?_
      refine z_sipush (v := 2048) O dX11_hundredths_55 rfl ?_
      refine z_iload O dX11_hundredths_58 1 rfl ?_
      refine z_imul O dX11_hundredths_60 ?_
      refine z_isub O dX11_hundredths_61 ?_
      refine z_i2l O dX11_hundredths_62 ?_
      refine z_topl (fun y5 ey5 => ?_)
      replace h := h y5 ey5
      refine z_lstore (lv' := [(6, .long y5), (5, .int y4), (4, .int y3), (3, .ref b2), (0, .ref a0), (1, .int x1), (2, .int x2)]) O dX11_hundredths_63 (by decide) rfl ?_
      refine z_lload O dX11_hundredths_65 0 rfl ?_
      refine z_lconst (v := 1) O dX11_hundredths_67 rfl ?_
      refine z_iload O dX11_hundredths_68 1 rfl ?_
      refine z_lshl O dX11_hundredths_70 ?_
      refine z_lmul O dX11_hundredths_71 ?_
      exact z_lret O dX11_hundredths_72 h
    · replace h := h.2 c
      refine z_ldc2_w O dX11_hundredths_20 zk_X11_192 ?_
      exact z_lret O dX11_hundredths_23 h
set_option maxRecDepth 100000 in
set_option maxHeartbeats 4000000 in
theorem b_X11_point_0 {G : zG} {X : zX} (O : zOK G X cX11_point 6 RX11 (some .int) "point") (hR : X.R = rm_X11_point) {M : zM} {n k : Nat} {a0 : Nat} {x1 : Int32} {x2 : Int32} {x3 : Int32} (h : M.1 a0 = 11 ∧ zC G yX11_objectAt cX11_objectAt 4 (some (.object "HouseWires$GroupObject")) rm_X11_objectAt M [.ref a0, .int x1, .int x2] (fun M1 v => (v = some .null ∧ X.q M1 (some (.int (-1)))) ∨ ∃ b2 : Nat, v = some (.ref b2) ∧ M1.1 b2 = 4 ∧ ((M1.2.2.1 b2 0) = 16 → zC G yX11_withPoint cX11_withPoint 3 (some .int) rm_X11_withPoint M1 [.int x3] (fun M3 v => ∃ r4 : Int32, v = some (.int r4) ∧ (¬ r4 = (-1) → M3.1 a0 = 11 ∧ zC G yX11_set cX11_set 5 (some .int) rm_X11_set M3 [.ref a0, .int x1, .int x2, .int r4] (fun M5 v => ∃ r6 : Int32, v = some (.int r6) ∧ X.q M5 (some (.int r6)))) ∧ (r4 = (-1) → X.q M3 (some (.int (-1)))))) ∧ (¬ (M1.2.2.1 b2 0) = 16 → X.q M1 (some (.int (-1)))))) : zW G X 6 M n k 0 [(0, .ref a0), (1, .int x1), (2, .int x2), (3, .int x3)] [] := by
  refine z_aload_n O dX11_point_0 rfl 0 rfl ?_
  refine z_iload_n O dX11_point_1 rfl 1 rfl ?_
  refine z_iload_n O dX11_point_2 rfl 2 rfl ?_
  obtain ⟨hk, h⟩ := h
  refine z_callV0 (As := [.int x1, .int x2]) O zc_X11_157 h hk rfl (zRm_of hR (by decide) (by decide)) (Nat.le_of_ble_eq_true rfl) dX11_point_3 rfl rfl rfl (fun M1 v h => ?_)
  rcases h with ⟨rfl, h⟩ | ⟨b2, rfl, h⟩
  · skip
    refine z_astoreN (lv' := [(4, .null), (0, .ref a0), (1, .int x1), (2, .int x2), (3, .int x3)]) O dX11_point_6 (by decide) rfl ?_
    refine z_aloadN O dX11_point_8 0 rfl ?_
    refine z_ifnullN O 23 dX11_point_10 (by decide) ?_
    refine z_iconst (v := (-1)) O dX11_point_23 rfl ?_
    exact z_iret O dX11_point_24 h
  · skip
    refine z_astore (lv' := [(4, .ref b2), (0, .ref a0), (1, .int x1), (2, .int x2), (3, .int x3)]) O dX11_point_6 (by decide) rfl ?_
    refine z_aload O dX11_point_8 0 rfl ?_
    refine z_ifnull O dX11_point_10 ?_
    refine z_aload O dX11_point_13 0 rfl ?_
    obtain ⟨hk, h⟩ := h
    refine z_geti O zf_X11_187_3 dX11_point_15 hk ?_
    refine z_bipush (v := 16) O dX11_point_18 rfl ?_
    refine z_icmp_eq O 25 dX11_point_20 (by decide) (fun c => ?_) (fun c => ?_)
    · replace h := h.1 c
      refine z_iload_n O dX11_point_25 rfl 4 rfl ?_
      refine z_callS0 (As := [.int x3]) O zc_X11_194 h rfl (zRm_of hR (by decide) (by decide)) (Nat.le_of_ble_eq_true rfl) dX11_point_26 rfl rfl rfl (fun M3 v h => ?_)
      obtain ⟨r4, rfl, h⟩ := h
      refine z_istore (lv' := [(5, .int r4), (4, .ref b2), (0, .ref a0), (1, .int x1), (2, .int x2), (3, .int x3)]) O dX11_point_29 (by decide) rfl ?_
      refine z_iload O dX11_point_31 0 rfl ?_
      refine z_iconst (v := (-1)) O dX11_point_33 rfl ?_
      refine z_icmp_ne O 41 dX11_point_34 (by decide) (fun c => ?_) (fun c => ?_)
      · replace h := h.1 c
        refine z_aload_n O dX11_point_41 rfl 2 rfl ?_
        refine z_iload_n O dX11_point_42 rfl 3 rfl ?_
        refine z_iload_n O dX11_point_43 rfl 4 rfl ?_
        refine z_iload O dX11_point_44 0 rfl ?_
        obtain ⟨hk, h⟩ := h
        refine z_callV0 (As := [.int x1, .int x2, .int r4]) O zc_X11_197 h hk rfl (zRm_of hR (by decide) (by decide)) (Nat.le_of_ble_eq_true rfl) dX11_point_46 rfl rfl rfl (fun M5 v h => ?_)
        obtain ⟨r6, rfl, h⟩ := h
        exact z_iret O dX11_point_49 h
      · replace h := h.2 c
        refine z_iconst (v := (-1)) O dX11_point_37 rfl ?_
        refine z_goto O 49 dX11_point_38 (by decide) ?_
        exact z_iret O dX11_point_49 h
    · replace h := h.2 c
      refine z_iconst (v := (-1)) O dX11_point_23 rfl ?_
      exact z_iret O dX11_point_24 h
set_option maxRecDepth 100000 in
set_option maxHeartbeats 4000000 in
theorem b_X11_connect_0 {G : zG} {X : zX} (O : zOK G X cX11_connect 4 RX11 (some .boolean) "connect") (hR : X.R = rm_X11_connect) {M : zM} {n k : Nat} {a0 : Nat} {x1 : Int32} {x2 : Int32} (h : M.1 a0 = 11 ∧ zC G yX11_deviceAt cX11_deviceAt 2 (some (.object "HouseWires$Device")) rm_X11_deviceAt M [.ref a0, .int x1] (fun M1 v => (v = some .null ∧ X.q M1 (some (.int 0))) ∨ ∃ b2 : Nat, v = some (.ref b2) ∧ zC G yX11_isWithin cX11_isWithin 3 (some .boolean) rm_X11_isWithin M1 [.int x2, .int 0, .int 65535] (fun M3 v => ∃ r4 : Int32, v = some (.int r4) ∧ (r4 = 0 → X.q M3 (some (.int 0))) ∧ (¬ r4 = 0 → M3.1 b2 = 2 ∧ ∃ b5 : Nat, M3.2.2.2 b2 3 = some b5 ∧ M3.1 b5 = 1 ∧ zC G yX0_join cX0_join 2 (some .boolean) rm_X0_join M3 [.ref b5, .int x2] (fun M6 v => ∃ r7 : Int32, v = some (.int r7) ∧ (r7 = 0 → X.q M6 (some (.int 0))) ∧ (¬ r7 = 0 → X.q M6 (some (.int 1)))))))) : zW G X 4 M n k 0 [(0, .ref a0), (1, .int x1), (2, .int x2)] [] := by
  refine z_aload_n O dX11_connect_0 rfl 0 rfl ?_
  refine z_iload_n O dX11_connect_1 rfl 1 rfl ?_
  obtain ⟨hk, h⟩ := h
  refine z_callV0 (As := [.int x1]) O zc_X11_146 h hk rfl (zRm_of hR (by decide) (by decide)) (Nat.le_of_ble_eq_true rfl) dX11_connect_2 rfl rfl rfl (fun M1 v h => ?_)
  rcases h with ⟨rfl, h⟩ | ⟨b2, rfl, h⟩
  · skip
    refine z_astore_nN (lv' := [(3, .null), (0, .ref a0), (1, .int x1), (2, .int x2)]) O dX11_connect_5 rfl (by decide) rfl ?_
    refine z_aload_nN O dX11_connect_6 rfl 0 rfl ?_
    refine z_ifnullN O 35 dX11_connect_7 (by decide) ?_
    refine z_iconst (v := 0) O dX11_connect_35 rfl ?_
    exact z_zret O dX11_connect_36 (by decide) h
  · skip
    refine z_astore_n (lv' := [(3, .ref b2), (0, .ref a0), (1, .int x1), (2, .int x2)]) O dX11_connect_5 rfl (by decide) rfl ?_
    refine z_aload_n O dX11_connect_6 rfl 0 rfl ?_
    refine z_ifnull O dX11_connect_7 ?_
    refine z_iload_n O dX11_connect_10 rfl 3 rfl ?_
    refine z_iconst (v := 0) O dX11_connect_11 rfl ?_
    refine z_ldc O dX11_connect_12 zk_X11_141 ?_
    refine z_callS0 (As := [.int x2, .int 0, .int 65535]) O zc_X11_71 h rfl (zRm_of hR (by decide) (by decide)) (Nat.le_of_ble_eq_true rfl) dX11_connect_14 rfl rfl rfl (fun M3 v h => ?_)
    obtain ⟨r4, rfl, h⟩ := h
    refine z_if_eq O 35 dX11_connect_17 (by decide) (fun c => ?_) (fun c => ?_)
    · replace h := h.1 c
      refine z_iconst (v := 0) O dX11_connect_35 rfl ?_
      exact z_zret O dX11_connect_36 (by decide) h
    · replace h := h.2 c
      refine z_aload_n O dX11_connect_20 rfl 0 rfl ?_
      obtain ⟨hk, b5, hr, h⟩ := h
      refine z_getr O zf_X11_200_1 dX11_connect_21 hk hr ?_
      refine z_iload_n O dX11_connect_24 rfl 3 rfl ?_
      obtain ⟨hk, h⟩ := h
      refine z_callV0 (As := [.int x2]) O zc_X11_204 h hk rfl (zRm_of hR (by decide) (by decide)) (Nat.le_of_ble_eq_true rfl) dX11_connect_25 rfl rfl rfl (fun M6 v h => ?_)
      obtain ⟨r7, rfl, h⟩ := h
      refine z_if_eq O 35 dX11_connect_28 (by decide) (fun c => ?_) (fun c => ?_)
      · replace h := h.1 c
        refine z_iconst (v := 0) O dX11_connect_35 rfl ?_
        exact z_zret O dX11_connect_36 (by decide) h
      · replace h := h.2 c
        refine z_iconst (v := 1) O dX11_connect_31 rfl ?_
        refine z_goto O 36 dX11_connect_32 (by decide) ?_
        exact z_zret O dX11_connect_36 (by decide) h
set_option maxRecDepth 100000 in
set_option maxHeartbeats 4000000 in
theorem b_X11_disconnect_0 {G : zG} {X : zX} (O : zOK G X cX11_disconnect 3 RX11 (some .boolean) "disconnect") (hR : X.R = rm_X11_disconnect) {M : zM} {n k : Nat} {a0 : Nat} {x1 : Int32} (h : M.1 a0 = 11 ∧ zC G yX11_deviceAt cX11_deviceAt 2 (some (.object "HouseWires$Device")) rm_X11_deviceAt M [.ref a0, .int x1] (fun M1 v => (v = some .null ∧ X.q M1 (some (.int 0))) ∨ ∃ b2 : Nat, v = some (.ref b2) ∧ M1.1 b2 = 2 ∧ ∃ b3 : Nat, M1.2.2.2 b2 3 = some b3 ∧ M1.1 b3 = 1 ∧ (¬ (M1.2.2.1 b3 7) = 0 → M1.1 b2 = 2 ∧ ∃ b4 : Nat, M1.2.2.2 b2 3 = some b4 ∧ M1.1 b4 = 1 ∧ zC G yX0_close cX0_close 1 none rm_X0_close M1 [.ref b4] (fun M5 v => v = none ∧ X.q M5 (some (.int 1)))) ∧ ((M1.2.2.1 b3 7) = 0 → X.q M1 (some (.int 0))))) : zW G X 3 M n k 0 [(0, .ref a0), (1, .int x1)] [] := by
  refine z_aload_n O dX11_disconnect_0 rfl 0 rfl ?_
  refine z_iload_n O dX11_disconnect_1 rfl 1 rfl ?_
  obtain ⟨hk, h⟩ := h
  refine z_callV0 (As := [.int x1]) O zc_X11_146 h hk rfl (zRm_of hR (by decide) (by decide)) (Nat.le_of_ble_eq_true rfl) dX11_disconnect_2 rfl rfl rfl (fun M1 v h => ?_)
  rcases h with ⟨rfl, h⟩ | ⟨b2, rfl, h⟩
  · skip
    refine z_astore_nN (lv' := [(2, .null), (0, .ref a0), (1, .int x1)]) O dX11_disconnect_5 rfl (by decide) rfl ?_
    refine z_aload_nN O dX11_disconnect_6 rfl 0 rfl ?_
    refine z_ifnullN O 20 dX11_disconnect_7 (by decide) ?_
    refine z_iconst (v := 0) O dX11_disconnect_20 rfl ?_
    exact z_zret O dX11_disconnect_21 (by decide) h
  · skip
    refine z_astore_n (lv' := [(2, .ref b2), (0, .ref a0), (1, .int x1)]) O dX11_disconnect_5 rfl (by decide) rfl ?_
    refine z_aload_n O dX11_disconnect_6 rfl 0 rfl ?_
    refine z_ifnull O dX11_disconnect_7 ?_
    refine z_aload_n O dX11_disconnect_10 rfl 0 rfl ?_
    obtain ⟨hk, b3, hr, h⟩ := h
    refine z_getr O zf_X11_200_1 dX11_disconnect_11 hk hr ?_
    obtain ⟨hk, h⟩ := h
    refine z_geti O zf_X11_207_0 dX11_disconnect_14 hk ?_
    refine z_if_ne O 22 dX11_disconnect_17 (by decide) (fun c => ?_) (fun c => ?_)
    · replace h := h.1 c
      refine z_aload_n O dX11_disconnect_22 rfl 0 rfl ?_
      obtain ⟨hk, b4, hr, h⟩ := h
      refine z_getr O zf_X11_200_1 dX11_disconnect_23 hk hr ?_
      obtain ⟨hk, h⟩ := h
      refine z_callV0 (As := []) O zc_X11_210 h hk rfl (zRm_of hR (by decide) (by decide)) (Nat.le_of_ble_eq_true rfl) dX11_disconnect_26 rfl rfl rfl (fun M5 v h => ?_)
      obtain ⟨rfl, h⟩ := h
      refine z_iconst (v := 1) O dX11_disconnect_29 rfl ?_
      exact z_zret O dX11_disconnect_30 (by decide) h
    · replace h := h.2 c
      refine z_iconst (v := 0) O dX11_disconnect_20 rfl ?_
      exact z_zret O dX11_disconnect_21 (by decide) h
set_option maxRecDepth 100000 in
set_option maxHeartbeats 4000000 in
theorem b_X11_peek_0 {G : zG} {X : zX} (O : zOK G X cX11_peek 5 RX11 (some .boolean) "peek") (hR : X.R = rm_X11_peek) {M : zM} {n k : Nat} {a0 : Nat} {x1 : Int32} {x2 : Int32} {x3 : Int32} (h : M.1 a0 = 11 ∧ zC G yX11_deviceAt cX11_deviceAt 2 (some (.object "HouseWires$Device")) rm_X11_deviceAt M [.ref a0, .int x1] (fun M1 v => (v = some .null ∧ X.q M1 (some (.int 0))) ∨ ∃ b2 : Nat, v = some (.ref b2) ∧ zC G yX11_isWithin cX11_isWithin 3 (some .boolean) rm_X11_isWithin M1 [.int x2, .int 0, .int 65535] (fun M3 v => ∃ r4 : Int32, v = some (.int r4) ∧ (r4 = 0 → X.q M3 (some (.int 0))) ∧ (¬ r4 = 0 → zC G yX11_isWithin cX11_isWithin 3 (some .boolean) rm_X11_isWithin M3 [.int x3, .int 1, .int 12] (fun M5 v => ∃ r6 : Int32, v = some (.int r6) ∧ (r6 = 0 → X.q M5 (some (.int 0))) ∧ (¬ r6 = 0 → M5.1 b2 = 2 ∧ ∃ b7 : Nat, M5.2.2.2 b2 3 = some b7 ∧ M5.1 b7 = 1 ∧ zC G yX0_orderRead cX0_orderRead 3 (some .boolean) rm_X0_orderRead M5 [.ref b7, .int x2, .int x3] (fun M8 v => ∃ r9 : Int32, v = some (.int r9) ∧ (r9 = 0 → X.q M8 (some (.int 0))) ∧ (¬ r9 = 0 → X.q M8 (some (.int 1)))))))))) : zW G X 5 M n k 0 [(0, .ref a0), (1, .int x1), (2, .int x2), (3, .int x3)] [] := by
  refine z_aload_n O dX11_peek_0 rfl 0 rfl ?_
  refine z_iload_n O dX11_peek_1 rfl 1 rfl ?_
  obtain ⟨hk, h⟩ := h
  refine z_callV0 (As := [.int x1]) O zc_X11_146 h hk rfl (zRm_of hR (by decide) (by decide)) (Nat.le_of_ble_eq_true rfl) dX11_peek_2 rfl rfl rfl (fun M1 v h => ?_)
  rcases h with ⟨rfl, h⟩ | ⟨b2, rfl, h⟩
  · skip
    refine z_astoreN (lv' := [(4, .null), (0, .ref a0), (1, .int x1), (2, .int x2), (3, .int x3)]) O dX11_peek_5 (by decide) rfl ?_
    refine z_aloadN O dX11_peek_7 0 rfl ?_
    refine z_ifnullN O 49 dX11_peek_9 (by decide) ?_
    refine z_iconst (v := 0) O dX11_peek_49 rfl ?_
    exact z_zret O dX11_peek_50 (by decide) h
  · skip
    refine z_astore (lv' := [(4, .ref b2), (0, .ref a0), (1, .int x1), (2, .int x2), (3, .int x3)]) O dX11_peek_5 (by decide) rfl ?_
    refine z_aload O dX11_peek_7 0 rfl ?_
    refine z_ifnull O dX11_peek_9 ?_
    refine z_iload_n O dX11_peek_12 rfl 3 rfl ?_
    refine z_iconst (v := 0) O dX11_peek_13 rfl ?_
    refine z_ldc O dX11_peek_14 zk_X11_141 ?_
    refine z_callS0 (As := [.int x2, .int 0, .int 65535]) O zc_X11_71 h rfl (zRm_of hR (by decide) (by decide)) (Nat.le_of_ble_eq_true rfl) dX11_peek_16 rfl rfl rfl (fun M3 v h => ?_)
    obtain ⟨r4, rfl, h⟩ := h
    refine z_if_eq O 49 dX11_peek_19 (by decide) (fun c => ?_) (fun c => ?_)
    · replace h := h.1 c
      refine z_iconst (v := 0) O dX11_peek_49 rfl ?_
      exact z_zret O dX11_peek_50 (by decide) h
    · replace h := h.2 c
      refine z_iload_n O dX11_peek_22 rfl 4 rfl ?_
      refine z_iconst (v := 1) O dX11_peek_23 rfl ?_
      refine z_bipush (v := 12) O dX11_peek_24 rfl ?_
      refine z_callS0 (As := [.int x3, .int 1, .int 12]) O zc_X11_71 h rfl (zRm_of hR (by decide) (by decide)) (Nat.le_of_ble_eq_true rfl) dX11_peek_26 rfl rfl rfl (fun M5 v h => ?_)
      obtain ⟨r6, rfl, h⟩ := h
      refine z_if_eq O 49 dX11_peek_29 (by decide) (fun c => ?_) (fun c => ?_)
      · replace h := h.1 c
        refine z_iconst (v := 0) O dX11_peek_49 rfl ?_
        exact z_zret O dX11_peek_50 (by decide) h
      · replace h := h.2 c
        refine z_aload O dX11_peek_32 0 rfl ?_
        obtain ⟨hk, b7, hr, h⟩ := h
        refine z_getr O zf_X11_200_1 dX11_peek_34 hk hr ?_
        refine z_iload_n O dX11_peek_37 rfl 3 rfl ?_
        refine z_iload_n O dX11_peek_38 rfl 4 rfl ?_
        obtain ⟨hk, h⟩ := h
        refine z_callV0 (As := [.int x2, .int x3]) O zc_X11_213 h hk rfl (zRm_of hR (by decide) (by decide)) (Nat.le_of_ble_eq_true rfl) dX11_peek_39 rfl rfl rfl (fun M8 v h => ?_)
        obtain ⟨r9, rfl, h⟩ := h
        refine z_if_eq O 49 dX11_peek_42 (by decide) (fun c => ?_) (fun c => ?_)
        · replace h := h.1 c
          refine z_iconst (v := 0) O dX11_peek_49 rfl ?_
          exact z_zret O dX11_peek_50 (by decide) h
        · replace h := h.2 c
          refine z_iconst (v := 1) O dX11_peek_45 rfl ?_
          refine z_goto O 50 dX11_peek_46 (by decide) ?_
          exact z_zret O dX11_peek_50 (by decide) h
set_option maxRecDepth 100000 in
set_option maxHeartbeats 4000000 in
theorem b_X11_poke_0 {G : zG} {X : zX} (O : zOK G X cX11_poke 6 RX11 (some .boolean) "poke") (hR : X.R = rm_X11_poke) {M : zM} {n k : Nat} {a0 : Nat} {x1 : Int32} {x2 : Int32} {x3 : Int32} {x4 : Int32} (h : M.1 a0 = 11 ∧ zC G yX11_deviceAt cX11_deviceAt 2 (some (.object "HouseWires$Device")) rm_X11_deviceAt M [.ref a0, .int x1] (fun M1 v => (v = some .null ∧ X.q M1 (some (.int 0))) ∨ ∃ b2 : Nat, v = some (.ref b2) ∧ zC G yX11_isWithin cX11_isWithin 3 (some .boolean) rm_X11_isWithin M1 [.int x2, .int 0, .int 65535] (fun M3 v => ∃ r4 : Int32, v = some (.int r4) ∧ (r4 = 0 → X.q M3 (some (.int 0))) ∧ (¬ r4 = 0 → zC G yX11_isWithin cX11_isWithin 3 (some .boolean) rm_X11_isWithin M3 [.int x3, .int 1, .int 4] (fun M5 v => ∃ r6 : Int32, v = some (.int r6) ∧ (r6 = 0 → X.q M5 (some (.int 0))) ∧ (¬ r6 = 0 → M5.1 b2 = 2 ∧ ∃ b7 : Nat, M5.2.2.2 b2 3 = some b7 ∧ M5.1 b7 = 1 ∧ zC G yX0_orderWrite cX0_orderWrite 5 (some .boolean) rm_X0_orderWrite M5 [.ref b7, .int x2, .int x3, .int x4] (fun M8 v => ∃ r9 : Int32, v = some (.int r9) ∧ (r9 = 0 → X.q M8 (some (.int 0))) ∧ (¬ r9 = 0 → X.q M8 (some (.int 1)))))))))) : zW G X 6 M n k 0 [(0, .ref a0), (1, .int x1), (2, .int x2), (3, .int x3), (4, .int x4)] [] := by
  refine z_aload_n O dX11_poke_0 rfl 0 rfl ?_
  refine z_iload_n O dX11_poke_1 rfl 1 rfl ?_
  obtain ⟨hk, h⟩ := h
  refine z_callV0 (As := [.int x1]) O zc_X11_146 h hk rfl (zRm_of hR (by decide) (by decide)) (Nat.le_of_ble_eq_true rfl) dX11_poke_2 rfl rfl rfl (fun M1 v h => ?_)
  rcases h with ⟨rfl, h⟩ | ⟨b2, rfl, h⟩
  · skip
    refine z_astoreN (lv' := [(5, .null), (0, .ref a0), (1, .int x1), (2, .int x2), (3, .int x3), (4, .int x4)]) O dX11_poke_5 (by decide) rfl ?_
    refine z_aloadN O dX11_poke_7 0 rfl ?_
    refine z_ifnullN O 50 dX11_poke_9 (by decide) ?_
    refine z_iconst (v := 0) O dX11_poke_50 rfl ?_
    exact z_zret O dX11_poke_51 (by decide) h
  · skip
    refine z_astore (lv' := [(5, .ref b2), (0, .ref a0), (1, .int x1), (2, .int x2), (3, .int x3), (4, .int x4)]) O dX11_poke_5 (by decide) rfl ?_
    refine z_aload O dX11_poke_7 0 rfl ?_
    refine z_ifnull O dX11_poke_9 ?_
    refine z_iload_n O dX11_poke_12 rfl 3 rfl ?_
    refine z_iconst (v := 0) O dX11_poke_13 rfl ?_
    refine z_ldc O dX11_poke_14 zk_X11_141 ?_
    refine z_callS0 (As := [.int x2, .int 0, .int 65535]) O zc_X11_71 h rfl (zRm_of hR (by decide) (by decide)) (Nat.le_of_ble_eq_true rfl) dX11_poke_16 rfl rfl rfl (fun M3 v h => ?_)
    obtain ⟨r4, rfl, h⟩ := h
    refine z_if_eq O 50 dX11_poke_19 (by decide) (fun c => ?_) (fun c => ?_)
    · replace h := h.1 c
      refine z_iconst (v := 0) O dX11_poke_50 rfl ?_
      exact z_zret O dX11_poke_51 (by decide) h
    · replace h := h.2 c
      refine z_iload_n O dX11_poke_22 rfl 4 rfl ?_
      refine z_iconst (v := 1) O dX11_poke_23 rfl ?_
      refine z_iconst (v := 4) O dX11_poke_24 rfl ?_
      refine z_callS0 (As := [.int x3, .int 1, .int 4]) O zc_X11_71 h rfl (zRm_of hR (by decide) (by decide)) (Nat.le_of_ble_eq_true rfl) dX11_poke_25 rfl rfl rfl (fun M5 v h => ?_)
      obtain ⟨r6, rfl, h⟩ := h
      refine z_if_eq O 50 dX11_poke_28 (by decide) (fun c => ?_) (fun c => ?_)
      · replace h := h.1 c
        refine z_iconst (v := 0) O dX11_poke_50 rfl ?_
        exact z_zret O dX11_poke_51 (by decide) h
      · replace h := h.2 c
        refine z_aload O dX11_poke_31 0 rfl ?_
        obtain ⟨hk, b7, hr, h⟩ := h
        refine z_getr O zf_X11_200_1 dX11_poke_33 hk hr ?_
        refine z_iload_n O dX11_poke_36 rfl 3 rfl ?_
        refine z_iload_n O dX11_poke_37 rfl 4 rfl ?_
        refine z_iload O dX11_poke_38 5 rfl ?_
        obtain ⟨hk, h⟩ := h
        refine z_callV0 (As := [.int x2, .int x3, .int x4]) O zc_X11_216 h hk rfl (zRm_of hR (by decide) (by decide)) (Nat.le_of_ble_eq_true rfl) dX11_poke_40 rfl rfl rfl (fun M8 v h => ?_)
        obtain ⟨r9, rfl, h⟩ := h
        refine z_if_eq O 50 dX11_poke_43 (by decide) (fun c => ?_) (fun c => ?_)
        · replace h := h.1 c
          refine z_iconst (v := 0) O dX11_poke_50 rfl ?_
          exact z_zret O dX11_poke_51 (by decide) h
        · replace h := h.2 c
          refine z_iconst (v := 1) O dX11_poke_46 rfl ?_
          refine z_goto O 51 dX11_poke_47 (by decide) ?_
          exact z_zret O dX11_poke_51 (by decide) h
set_option maxRecDepth 100000 in
set_option maxHeartbeats 4000000 in
theorem b_X11_memory_0 {G : zG} {X : zX} (O : zOK G X cX11_memory 4 RX11 (some .int) "memory") (hR : X.R = rm_X11_memory) {M : zM} {n k : Nat} {a0 : Nat} {x1 : Int32} {x2 : Int32} (h : M.1 a0 = 11 ∧ zC G yX11_deviceAt cX11_deviceAt 2 (some (.object "HouseWires$Device")) rm_X11_deviceAt M [.ref a0, .int x1] (fun M1 v => (v = some .null ∧ X.q M1 (some (.int (-1)))) ∨ ∃ b2 : Nat, v = some (.ref b2) ∧ zC G yX11_isWithin cX11_isWithin 3 (some .boolean) rm_X11_isWithin M1 [.int x2, .int 0, .int 63] (fun M3 v => ∃ r4 : Int32, v = some (.int r4) ∧ (¬ r4 = 0 → M3.1 b2 = 2 ∧ ∃ b5 : Nat, M3.2.2.2 b2 3 = some b5 ∧ M3.1 b5 = 1 ∧ ∃ b6 : Nat, M3.2.2.2 b5 4 = some b6 ∧ M3.1 b6 = 100 ∧ vp_in x2 (M3.2.1 b6) ∧ X.q M3 (some (.int (M3.2.2.1 b6 x2.toNatClampNeg)))) ∧ (r4 = 0 → X.q M3 (some (.int (-1))))))) : zW G X 4 M n k 0 [(0, .ref a0), (1, .int x1), (2, .int x2)] [] := by
  refine z_aload_n O dX11_memory_0 rfl 0 rfl ?_
  refine z_iload_n O dX11_memory_1 rfl 1 rfl ?_
  obtain ⟨hk, h⟩ := h
  refine z_callV0 (As := [.int x1]) O zc_X11_146 h hk rfl (zRm_of hR (by decide) (by decide)) (Nat.le_of_ble_eq_true rfl) dX11_memory_2 rfl rfl rfl (fun M1 v h => ?_)
  rcases h with ⟨rfl, h⟩ | ⟨b2, rfl, h⟩
  · skip
    refine z_astore_nN (lv' := [(3, .null), (0, .ref a0), (1, .int x1), (2, .int x2)]) O dX11_memory_5 rfl (by decide) rfl ?_
    refine z_aload_nN O dX11_memory_6 rfl 0 rfl ?_
    refine z_ifnullN O 20 dX11_memory_7 (by decide) ?_
    refine z_iconst (v := (-1)) O dX11_memory_20 rfl ?_
    exact z_iret O dX11_memory_21 h
  · skip
    refine z_astore_n (lv' := [(3, .ref b2), (0, .ref a0), (1, .int x1), (2, .int x2)]) O dX11_memory_5 rfl (by decide) rfl ?_
    refine z_aload_n O dX11_memory_6 rfl 0 rfl ?_
    refine z_ifnull O dX11_memory_7 ?_
    refine z_iload_n O dX11_memory_10 rfl 3 rfl ?_
    refine z_iconst (v := 0) O dX11_memory_11 rfl ?_
    refine z_bipush (v := 63) O dX11_memory_12 rfl ?_
    refine z_callS0 (As := [.int x2, .int 0, .int 63]) O zc_X11_71 h rfl (zRm_of hR (by decide) (by decide)) (Nat.le_of_ble_eq_true rfl) dX11_memory_14 rfl rfl rfl (fun M3 v h => ?_)
    obtain ⟨r4, rfl, h⟩ := h
    refine z_if_ne O 22 dX11_memory_17 (by decide) (fun c => ?_) (fun c => ?_)
    · replace h := h.1 c
      refine z_aload_n O dX11_memory_22 rfl 0 rfl ?_
      obtain ⟨hk, b5, hr, h⟩ := h
      refine z_getr O zf_X11_200_1 dX11_memory_23 hk hr ?_
      obtain ⟨hk, b6, hr, h⟩ := h
      refine z_getr O zf_X11_219_0 dX11_memory_26 hk hr ?_
      refine z_iload_n O dX11_memory_29 rfl 3 rfl ?_
      obtain ⟨hk, hi, h⟩ := h
      refine z_iald O dX11_memory_30 hk hi ?_
      exact z_iret O dX11_memory_31 h
    · replace h := h.2 c
      refine z_iconst (v := (-1)) O dX11_memory_20 rfl ?_
      exact z_iret O dX11_memory_21 h
set_option maxRecDepth 100000 in
set_option maxHeartbeats 4000000 in
theorem b_X11_store_0 {G : zG} {X : zX} (O : zOK G X cX11_store 5 RX11 (some .boolean) "store") (hR : X.R = rm_X11_store) {M : zM} {n k : Nat} {a0 : Nat} {x1 : Int32} {x2 : Int32} {x3 : Int32} (h : M.1 a0 = 11 ∧ zC G yX11_deviceAt cX11_deviceAt 2 (some (.object "HouseWires$Device")) rm_X11_deviceAt M [.ref a0, .int x1] (fun M1 v => (v = some .null ∧ X.q M1 (some (.int 0))) ∨ ∃ b2 : Nat, v = some (.ref b2) ∧ zC G yX11_isWithin cX11_isWithin 3 (some .boolean) rm_X11_isWithin M1 [.int x2, .int 0, .int 63] (fun M3 v => ∃ r4 : Int32, v = some (.int r4) ∧ (¬ r4 = 0 → M3.1 b2 = 2 ∧ ∃ b5 : Nat, M3.2.2.2 b2 3 = some b5 ∧ M3.1 b5 = 1 ∧ ∃ b6 : Nat, M3.2.2.2 b5 4 = some b6 ∧ M3.1 b6 = 100 ∧ vp_in x2 (M3.2.1 b6) ∧ ∀ M7 : zM, M7 = zi M3 b6 (x2.toNatClampNeg) (x3 &&& 255) → X.q M7 (some (.int 1))) ∧ (r4 = 0 → X.q M3 (some (.int 0)))))) : zW G X 5 M n k 0 [(0, .ref a0), (1, .int x1), (2, .int x2), (3, .int x3)] [] := by
  refine z_aload_n O dX11_store_0 rfl 0 rfl ?_
  refine z_iload_n O dX11_store_1 rfl 1 rfl ?_
  obtain ⟨hk, h⟩ := h
  refine z_callV0 (As := [.int x1]) O zc_X11_146 h hk rfl (zRm_of hR (by decide) (by decide)) (Nat.le_of_ble_eq_true rfl) dX11_store_2 rfl rfl rfl (fun M1 v h => ?_)
  rcases h with ⟨rfl, h⟩ | ⟨b2, rfl, h⟩
  · skip
    refine z_astoreN (lv' := [(4, .null), (0, .ref a0), (1, .int x1), (2, .int x2), (3, .int x3)]) O dX11_store_5 (by decide) rfl ?_
    refine z_aloadN O dX11_store_7 0 rfl ?_
    refine z_ifnullN O 22 dX11_store_9 (by decide) ?_
    refine z_iconst (v := 0) O dX11_store_22 rfl ?_
    exact z_zret O dX11_store_23 (by decide) h
  · skip
    refine z_astore (lv' := [(4, .ref b2), (0, .ref a0), (1, .int x1), (2, .int x2), (3, .int x3)]) O dX11_store_5 (by decide) rfl ?_
    refine z_aload O dX11_store_7 0 rfl ?_
    refine z_ifnull O dX11_store_9 ?_
    refine z_iload_n O dX11_store_12 rfl 3 rfl ?_
    refine z_iconst (v := 0) O dX11_store_13 rfl ?_
    refine z_bipush (v := 63) O dX11_store_14 rfl ?_
    refine z_callS0 (As := [.int x2, .int 0, .int 63]) O zc_X11_71 h rfl (zRm_of hR (by decide) (by decide)) (Nat.le_of_ble_eq_true rfl) dX11_store_16 rfl rfl rfl (fun M3 v h => ?_)
    obtain ⟨r4, rfl, h⟩ := h
    refine z_if_ne O 24 dX11_store_19 (by decide) (fun c => ?_) (fun c => ?_)
    · replace h := h.1 c
      refine z_aload O dX11_store_24 0 rfl ?_
      obtain ⟨hk, b5, hr, h⟩ := h
      refine z_getr O zf_X11_200_1 dX11_store_26 hk hr ?_
      obtain ⟨hk, b6, hr, h⟩ := h
      refine z_getr O zf_X11_219_0 dX11_store_29 hk hr ?_
      refine z_iload_n O dX11_store_32 rfl 3 rfl ?_
      refine z_iload_n O dX11_store_33 rfl 4 rfl ?_
      refine z_sipush (v := 255) O dX11_store_34 rfl ?_
      refine z_iand O dX11_store_37 ?_
      obtain ⟨hk, hi, h⟩ := h
      refine z_iast O dX11_store_38 hk hi ?_
      generalize eM7 : zi M3 b6 (x2.toNatClampNeg) (x3 &&& 255) = M7
      replace h := h M7 eM7.symm
      refine z_iconst (v := 1) O dX11_store_39 rfl ?_
      exact z_zret O dX11_store_40 (by decide) h
    · replace h := h.2 c
      refine z_iconst (v := 0) O dX11_store_22 rfl ?_
      exact z_zret O dX11_store_23 (by decide) h
set_option maxRecDepth 100000 in
set_option maxHeartbeats 4000000 in
theorem b_X11_reply_0 {G : zG} {X : zX} (O : zOK G X cX11_reply 5 RX11 (some .int) "reply") (hR : X.R = rm_X11_reply) {M : zM} {n k : Nat} {a0 : Nat} {x1 : Int32} {x2 : Int32} (h : M.1 a0 = 11 ∧ zC G yX11_deviceAt cX11_deviceAt 2 (some (.object "HouseWires$Device")) rm_X11_deviceAt M [.ref a0, .int x1] (fun M1 v => (v = some .null ∧ X.q M1 (some (.int (-1)))) ∨ ∃ b2 : Nat, v = some (.ref b2) ∧ M1.1 b2 = 2 ∧ ∃ b3 : Nat, M1.2.2.2 b2 3 = some b3 ∧ M1.1 b3 = 1 ∧ ∀ y4 : Int32, y4 = (M1.2.2.1 b3 6) → (¬ x2 = (-1) → zC G yX11_isWithin cX11_isWithin 3 (some .boolean) rm_X11_isWithin M1 [.int x2, .int 0, .int (y4 - 1)] (fun M5 v => ∃ r6 : Int32, v = some (.int r6) ∧ (r6 = 0 → X.q M5 (some (.int (-1)))) ∧ (¬ r6 = 0 → M5.1 b2 = 2 ∧ ∃ b7 : Nat, M5.2.2.2 b2 3 = some b7 ∧ M5.1 b7 = 1 ∧ ∃ b8 : Nat, M5.2.2.2 b7 5 = some b8 ∧ M5.1 b8 = 100 ∧ vp_in x2 (M5.2.1 b8) ∧ X.q M5 (some (.int (M5.2.2.1 b8 x2.toNatClampNeg)))))) ∧ (x2 = (-1) → X.q M1 (some (.int y4))))) : zW G X 5 M n k 0 [(0, .ref a0), (1, .int x1), (2, .int x2)] [] := by
  refine z_aload_n O dX11_reply_0 rfl 0 rfl ?_
  refine z_iload_n O dX11_reply_1 rfl 1 rfl ?_
  obtain ⟨hk, h⟩ := h
  refine z_callV0 (As := [.int x1]) O zc_X11_146 h hk rfl (zRm_of hR (by decide) (by decide)) (Nat.le_of_ble_eq_true rfl) dX11_reply_2 rfl rfl rfl (fun M1 v h => ?_)
  rcases h with ⟨rfl, h⟩ | ⟨b2, rfl, h⟩
  · skip
    refine z_astore_nN (lv' := [(3, .null), (0, .ref a0), (1, .int x1), (2, .int x2)]) O dX11_reply_5 rfl (by decide) rfl ?_
    refine z_aload_nN O dX11_reply_6 rfl 0 rfl ?_
    refine z_ifnonnullN O dX11_reply_7 ?_
    refine z_iconst (v := (-1)) O dX11_reply_10 rfl ?_
    exact z_iret O dX11_reply_11 h
  · skip
    refine z_astore_n (lv' := [(3, .ref b2), (0, .ref a0), (1, .int x1), (2, .int x2)]) O dX11_reply_5 rfl (by decide) rfl ?_
    refine z_aload_n O dX11_reply_6 rfl 0 rfl ?_
    refine z_ifnonnull O 12 dX11_reply_7 (by decide) ?_
    refine z_aload_n O dX11_reply_12 rfl 0 rfl ?_
    obtain ⟨hk, b3, hr, h⟩ := h
    refine z_getr O zf_X11_200_1 dX11_reply_13 hk hr ?_
    obtain ⟨hk, h⟩ := h
    refine z_geti O zf_X11_222_0 dX11_reply_16 hk ?_
    refine z_topi (fun y4 ey4 => ?_)
    replace h := h y4 ey4
    refine z_istore (lv' := [(4, .int y4), (3, .ref b2), (0, .ref a0), (1, .int x1), (2, .int x2)]) O dX11_reply_19 (by decide) rfl ?_
    refine z_iload_n O dX11_reply_21 rfl 4 rfl ?_
    refine z_iconst (v := (-1)) O dX11_reply_22 rfl ?_
    refine z_icmp_ne O 29 dX11_reply_23 (by decide) (fun c => ?_) (fun c => ?_)
    · replace h := h.1 c
      refine z_iload_n O dX11_reply_29 rfl 4 rfl ?_
      refine z_iconst (v := 0) O dX11_reply_30 rfl ?_
      refine z_iload O dX11_reply_31 0 rfl ?_
      refine z_iconst (v := 1) O dX11_reply_33 rfl ?_
      refine z_isub O dX11_reply_34 ?_
      refine z_callS0 (As := [.int x2, .int 0, .int (y4 - 1)]) O zc_X11_71 h rfl (zRm_of hR (by decide) (by decide)) (Nat.le_of_ble_eq_true rfl) dX11_reply_35 rfl rfl rfl (fun M5 v h => ?_)
      obtain ⟨r6, rfl, h⟩ := h
      refine z_if_eq O 53 dX11_reply_38 (by decide) (fun c => ?_) (fun c => ?_)
      · replace h := h.1 c
        refine z_iconst (v := (-1)) O dX11_reply_53 rfl ?_
        exact z_iret O dX11_reply_54 h
      · replace h := h.2 c
        refine z_aload_n O dX11_reply_41 rfl 1 rfl ?_
        obtain ⟨hk, b7, hr, h⟩ := h
        refine z_getr O zf_X11_200_1 dX11_reply_42 hk hr ?_
        obtain ⟨hk, b8, hr, h⟩ := h
        refine z_getr O zf_X11_225_0 dX11_reply_45 hk hr ?_
        refine z_iload_n O dX11_reply_48 rfl 4 rfl ?_
        obtain ⟨hk, hi, h⟩ := h
        refine z_iald O dX11_reply_49 hk hi ?_
        refine z_goto O 54 dX11_reply_50 (by decide) ?_
        exact z_iret O dX11_reply_54 h
    · replace h := h.2 c
      refine z_iload O dX11_reply_26 0 rfl ?_
      exact z_iret O dX11_reply_28 h
set_option maxRecDepth 100000 in
set_option maxHeartbeats 4000000 in
theorem b_X11_connection_0 {G : zG} {X : zX} (O : zOK G X cX11_connection 4 RX11 (some .int) "connection") (hR : X.R = rm_X11_connection) {M : zM} {n k : Nat} {a0 : Nat} {x1 : Int32} {x2 : Int32} (h : M.1 a0 = 11 ∧ zC G yX11_deviceAt cX11_deviceAt 2 (some (.object "HouseWires$Device")) rm_X11_deviceAt M [.ref a0, .int x1] (fun M1 v => (v = some .null ∧ X.q M1 (some (.int (-1)))) ∨ ∃ b2 : Nat, v = some (.ref b2) ∧ (x2.toInt < 7 ∨ 11 < x2.toInt → M1.1 b2 = 2 ∧ ∃ b3 : Nat, M1.2.2.2 b2 3 = some b3 ∧ M1.1 b3 = 1 ∧ zC G yX0_tell cX0_tell 3 (some .int) rm_X0_tell M1 [.ref b3, .int x2] (fun M4 v => ∃ r5 : Int32, v = some (.int r5) ∧ X.q M4 (some (.int r5)))) ∧ (x2.toInt = 7 → M1.1 b2 = 2 ∧ ∃ b6 : Nat, M1.2.2.2 b2 0 = some b6 ∧ M1.1 b6 = 8 ∧ X.q M1 (some (.int (M1.2.2.1 b6 2)))) ∧ (x2.toInt = 8 → M1.1 b2 = 2 ∧ X.q M1 (some (.int (M1.2.2.1 b2 2)))) ∧ (x2.toInt = 9 → M1.1 b2 = 2 ∧ X.q M1 (some (.int (M1.2.2.1 b2 10)))) ∧ (x2.toInt = 10 → M1.1 b2 = 2 ∧ X.q M1 (some (.int (M1.2.2.1 b2 8)))) ∧ (x2.toInt = 11 → M1.1 b2 = 2 ∧ X.q M1 (some (.int (M1.2.2.1 b2 9)))))) : zW G X 4 M n k 0 [(0, .ref a0), (1, .int x1), (2, .int x2)] [] := by
  refine z_aload_n O dX11_connection_0 rfl 0 rfl ?_
  refine z_iload_n O dX11_connection_1 rfl 1 rfl ?_
  obtain ⟨hk, h⟩ := h
  refine z_callV0 (As := [.int x1]) O zc_X11_146 h hk rfl (zRm_of hR (by decide) (by decide)) (Nat.le_of_ble_eq_true rfl) dX11_connection_2 rfl rfl rfl (fun M1 v h => ?_)
  rcases h with ⟨rfl, h⟩ | ⟨b2, rfl, h⟩
  · skip
    refine z_astore_nN (lv' := [(3, .null), (0, .ref a0), (1, .int x1), (2, .int x2)]) O dX11_connection_5 rfl (by decide) rfl ?_
    refine z_aload_nN O dX11_connection_6 rfl 0 rfl ?_
    refine z_ifnonnullN O dX11_connection_7 ?_
    refine z_iconst (v := (-1)) O dX11_connection_10 rfl ?_
    exact z_iret O dX11_connection_11 h
  · skip
    refine z_astore_n (lv' := [(3, .ref b2), (0, .ref a0), (1, .int x1), (2, .int x2)]) O dX11_connection_5 rfl (by decide) rfl ?_
    refine z_aload_n O dX11_connection_6 rfl 0 rfl ?_
    refine z_ifnonnull O 12 dX11_connection_7 (by decide) ?_
    refine z_iload_n O dX11_connection_12 rfl 3 rfl ?_
    rcases zsw x2 7 11 (by decide) with c | ⟨j, hj, c⟩
    · refine z_tsOut O 76 dX11_connection_13 c (by decide) ?_
      replace h := h.1 c
      refine z_aload_n O dX11_connection_76 rfl 0 rfl ?_
      obtain ⟨hk, b3, hr, h⟩ := h
      refine z_getr O zf_X11_200_1 dX11_connection_77 hk hr ?_
      refine z_iload_n O dX11_connection_80 rfl 3 rfl ?_
      obtain ⟨hk, h⟩ := h
      refine z_callV0 (As := [.int x2]) O zc_X11_247 h hk rfl (zRm_of hR (by decide) (by decide)) (Nat.le_of_ble_eq_true rfl) dX11_connection_81 rfl rfl rfl (fun M4 v h => ?_)
      obtain ⟨r5, rfl, h⟩ := h
      exact z_iret O dX11_connection_84 h
    · replace h := h.2
      rcases zcas j 0 with hz | hz
      · subst hz
        replace h := h.1 (by rw [c]; rfl)
        refine z_tsIn (off := 35) O 48 dX11_connection_13 (by rw [c]; decide) (by rw [c]; decide) (by rw [c]; rfl) (by decide) ?_
        refine z_aload_n O dX11_connection_48 rfl 0 rfl ?_
        obtain ⟨hk, b6, hr, h⟩ := h
        refine z_getr O zf_X11_228_1 dX11_connection_49 hk hr ?_
        obtain ⟨hk, h⟩ := h
        refine z_geti O zf_X11_232_7 dX11_connection_52 hk ?_
        exact z_iret O dX11_connection_55 h
      · replace h := h.2
        rcases zcas j 1 with hz | hz
        · subst hz
          replace h := h.1 (by rw [c]; rfl)
          refine z_tsIn (off := 43) O 56 dX11_connection_13 (by rw [c]; decide) (by rw [c]; decide) (by rw [c]; rfl) (by decide) ?_
          refine z_aload_n O dX11_connection_56 rfl 0 rfl ?_
          obtain ⟨hk, h⟩ := h
          refine z_geti O zf_X11_235_1 dX11_connection_57 hk ?_
          exact z_iret O dX11_connection_60 h
        · replace h := h.2
          rcases zcas j 2 with hz | hz
          · subst hz
            replace h := h.1 (by rw [c]; rfl)
            refine z_tsIn (off := 48) O 61 dX11_connection_13 (by rw [c]; decide) (by rw [c]; decide) (by rw [c]; rfl) (by decide) ?_
            refine z_aload_n O dX11_connection_61 rfl 0 rfl ?_
            obtain ⟨hk, h⟩ := h
            refine z_geti O zf_X11_238_1 dX11_connection_62 hk ?_
            exact z_iret O dX11_connection_65 h
          · replace h := h.2
            rcases zcas j 3 with hz | hz
            · subst hz
              replace h := h.1 (by rw [c]; rfl)
              refine z_tsIn (off := 53) O 66 dX11_connection_13 (by rw [c]; decide) (by rw [c]; decide) (by rw [c]; rfl) (by decide) ?_
              refine z_aload_n O dX11_connection_66 rfl 0 rfl ?_
              obtain ⟨hk, h⟩ := h
              refine z_geti O zf_X11_241_1 dX11_connection_67 hk ?_
              exact z_iret O dX11_connection_70 h
            · replace h := h.2
              have hz : j = 4 := by omega
              subst hz
              replace h := h (by rw [c]; rfl)
              refine z_tsIn (off := 58) O 71 dX11_connection_13 (by rw [c]; decide) (by rw [c]; decide) (by rw [c]; rfl) (by decide) ?_
              refine z_aload_n O dX11_connection_71 rfl 0 rfl ?_
              obtain ⟨hk, h⟩ := h
              refine z_geti O zf_X11_244_1 dX11_connection_72 hk ?_
              exact z_iret O dX11_connection_75 h
set_option maxRecDepth 100000 in
set_option maxHeartbeats 4000000 in
theorem b_X11_busy_0 {G : zG} {X : zX} (O : zOK G X cX11_busy 4 RX11 (some .boolean) "busy") (hR : X.R = rm_X11_busy) {M : zM} {n k : Nat} {a0 : Nat} {x1 : Int32} {x2 : Int32} (h : M.1 a0 = 11 ∧ zC G yX11_deviceAt cX11_deviceAt 2 (some (.object "HouseWires$Device")) rm_X11_deviceAt M [.ref a0, .int x1] (fun M1 v => (v = some .null ∧ X.q M1 (some (.int 0))) ∨ ∃ b2 : Nat, v = some (.ref b2) ∧ zC G yX11_isWithin cX11_isWithin 3 (some .boolean) rm_X11_isWithin M1 [.int x2, .int 0, .int 20] (fun M3 v => ∃ r4 : Int32, v = some (.int r4) ∧ (¬ r4 = 0 → M3.1 b2 = 2 ∧ ∀ M5 : zM, M5 = zi M3 b2 10 x2 → X.q M5 (some (.int 1))) ∧ (r4 = 0 → X.q M3 (some (.int 0)))))) : zW G X 4 M n k 0 [(0, .ref a0), (1, .int x1), (2, .int x2)] [] := by
  refine z_aload_n O dX11_busy_0 rfl 0 rfl ?_
  refine z_iload_n O dX11_busy_1 rfl 1 rfl ?_
  obtain ⟨hk, h⟩ := h
  refine z_callV0 (As := [.int x1]) O zc_X11_146 h hk rfl (zRm_of hR (by decide) (by decide)) (Nat.le_of_ble_eq_true rfl) dX11_busy_2 rfl rfl rfl (fun M1 v h => ?_)
  rcases h with ⟨rfl, h⟩ | ⟨b2, rfl, h⟩
  · skip
    refine z_astore_nN (lv' := [(3, .null), (0, .ref a0), (1, .int x1), (2, .int x2)]) O dX11_busy_5 rfl (by decide) rfl ?_
    refine z_aload_nN O dX11_busy_6 rfl 0 rfl ?_
    refine z_ifnullN O 20 dX11_busy_7 (by decide) ?_
    refine z_iconst (v := 0) O dX11_busy_20 rfl ?_
    exact z_zret O dX11_busy_21 (by decide) h
  · skip
    refine z_astore_n (lv' := [(3, .ref b2), (0, .ref a0), (1, .int x1), (2, .int x2)]) O dX11_busy_5 rfl (by decide) rfl ?_
    refine z_aload_n O dX11_busy_6 rfl 0 rfl ?_
    refine z_ifnull O dX11_busy_7 ?_
    refine z_iload_n O dX11_busy_10 rfl 3 rfl ?_
    refine z_iconst (v := 0) O dX11_busy_11 rfl ?_
    refine z_bipush (v := 20) O dX11_busy_12 rfl ?_
    refine z_callS0 (As := [.int x2, .int 0, .int 20]) O zc_X11_71 h rfl (zRm_of hR (by decide) (by decide)) (Nat.le_of_ble_eq_true rfl) dX11_busy_14 rfl rfl rfl (fun M3 v h => ?_)
    obtain ⟨r4, rfl, h⟩ := h
    refine z_if_ne O 22 dX11_busy_17 (by decide) (fun c => ?_) (fun c => ?_)
    · replace h := h.1 c
      refine z_aload_n O dX11_busy_22 rfl 0 rfl ?_
      refine z_iload_n O dX11_busy_23 rfl 3 rfl ?_
      obtain ⟨hk, h⟩ := h
      refine z_puti O zp_X11_238_1 dX11_busy_24 hk ?_
      generalize eM5 : zi M3 b2 10 x2 = M5
      replace h := h M5 eM5.symm
      refine z_iconst (v := 1) O dX11_busy_27 rfl ?_
      exact z_zret O dX11_busy_28 (by decide) h
    · replace h := h.2 c
      refine z_iconst (v := 0) O dX11_busy_20 rfl ?_
      exact z_zret O dX11_busy_21 (by decide) h
set_option maxRecDepth 100000 in
set_option maxHeartbeats 4000000 in
theorem b_X11_feed_0 {G : zG} {X : zX} (O : zOK G X cX11_feed 6 RX11 (some .int) "feed") (hR : X.R = rm_X11_feed) {M : zM} {n k : Nat} {a0 : Nat} {x1 : Int32} {x2 : Int32} {x3 : Int32} {x4 : Int32} {x5 : Int32} (h : M.1 a0 = 11 ∧ ((M.2.2.1 a0 12) ≤ 40 → M.1 a0 = 11 ∧ zC G yX11_feedNumber cX11_feedNumber 3 none rm_X11_feedNumber M [.ref a0, .int x1] (fun M1 v => v = none ∧ M1.1 a0 = 11 ∧ zC G yX11_feedNumber cX11_feedNumber 3 none rm_X11_feedNumber M1 [.ref a0, .int x2] (fun M2 v => v = none ∧ M2.1 a0 = 11 ∧ zC G yX11_feedNumber cX11_feedNumber 3 none rm_X11_feedNumber M2 [.ref a0, .int x3] (fun M3 v => v = none ∧ M3.1 a0 = 11 ∧ zC G yX11_feedNumber cX11_feedNumber 3 none rm_X11_feedNumber M3 [.ref a0, .int x4] (fun M4 v => v = none ∧ M4.1 a0 = 11 ∧ zC G yX11_feedNumber cX11_feedNumber 3 none rm_X11_feedNumber M4 [.ref a0, .int x5] (fun M5 v => v = none ∧ M5.1 a0 = 11 ∧ X.q M5 (some (.int (M5.2.2.1 a0 12))))))))) ∧ (¬ (M.2.2.1 a0 12) ≤ 40 → X.q M (some (.int (-1))))) : zW G X 6 M n k 0 [(0, .ref a0), (1, .int x1), (2, .int x2), (3, .int x3), (4, .int x4), (5, .int x5)] [] := by
  refine z_aload_n O dX11_feed_0 rfl 0 rfl ?_
  obtain ⟨hk, h⟩ := h
  refine z_geti O zf_X11_250_10 dX11_feed_1 hk ?_
  refine z_bipush (v := 40) O dX11_feed_4 rfl ?_
  refine z_icmp_le O 11 dX11_feed_6 (by decide) (fun c => ?_) (fun c => ?_)
  · replace h := h.1 c
    refine z_aload_n O dX11_feed_11 rfl 0 rfl ?_
    refine z_iload_n O dX11_feed_12 rfl 1 rfl ?_
    obtain ⟨hk, h⟩ := h
    refine z_callV0 (As := [.int x1]) O zc_X11_253 h hk rfl (zRm_of hR (by decide) (by decide)) (Nat.le_of_ble_eq_true rfl) dX11_feed_13 rfl rfl rfl (fun M1 v h => ?_)
    obtain ⟨rfl, h⟩ := h
    refine z_aload_n O dX11_feed_16 rfl 0 rfl ?_
    refine z_iload_n O dX11_feed_17 rfl 2 rfl ?_
    obtain ⟨hk, h⟩ := h
    refine z_callV0 (As := [.int x2]) O zc_X11_253 h hk rfl (zRm_of hR (by decide) (by decide)) (Nat.le_of_ble_eq_true rfl) dX11_feed_18 rfl rfl rfl (fun M2 v h => ?_)
    obtain ⟨rfl, h⟩ := h
    refine z_aload_n O dX11_feed_21 rfl 0 rfl ?_
    refine z_iload_n O dX11_feed_22 rfl 3 rfl ?_
    obtain ⟨hk, h⟩ := h
    refine z_callV0 (As := [.int x3]) O zc_X11_253 h hk rfl (zRm_of hR (by decide) (by decide)) (Nat.le_of_ble_eq_true rfl) dX11_feed_23 rfl rfl rfl (fun M3 v h => ?_)
    obtain ⟨rfl, h⟩ := h
    refine z_aload_n O dX11_feed_26 rfl 0 rfl ?_
    refine z_iload O dX11_feed_27 4 rfl ?_
    obtain ⟨hk, h⟩ := h
    refine z_callV0 (As := [.int x4]) O zc_X11_253 h hk rfl (zRm_of hR (by decide) (by decide)) (Nat.le_of_ble_eq_true rfl) dX11_feed_29 rfl rfl rfl (fun M4 v h => ?_)
    obtain ⟨rfl, h⟩ := h
    refine z_aload_n O dX11_feed_32 rfl 0 rfl ?_
    refine z_iload O dX11_feed_33 5 rfl ?_
    obtain ⟨hk, h⟩ := h
    refine z_callV0 (As := [.int x5]) O zc_X11_253 h hk rfl (zRm_of hR (by decide) (by decide)) (Nat.le_of_ble_eq_true rfl) dX11_feed_35 rfl rfl rfl (fun M5 v h => ?_)
    obtain ⟨rfl, h⟩ := h
    refine z_aload_n O dX11_feed_38 rfl 0 rfl ?_
    obtain ⟨hk, h⟩ := h
    refine z_geti O zf_X11_250_10 dX11_feed_39 hk ?_
    exact z_iret O dX11_feed_42 h
  · replace h := h.2 c
    refine z_iconst (v := (-1)) O dX11_feed_9 rfl ?_
    exact z_iret O dX11_feed_10 h
set_option maxRecDepth 100000 in
set_option maxHeartbeats 4000000 in
theorem b_X11_feedNumber_0 {G : zG} {X : zX} (O : zOK G X cX11_feedNumber 3 RX11 none "feedNumber") (hR : X.R = rm_X11_feedNumber) {M : zM} {n k : Nat} {a0 : Nat} {x1 : Int32} (h : zW G X 3 M n k 3 [(0, .ref a0), (1, .int x1), (2, .int 24)] []) : zW G X 3 M n k 0 [(0, .ref a0), (1, .int x1)] [] := by
  refine z_bipush (v := 24) O dX11_feedNumber_0 rfl ?_
  refine z_istore_n (lv' := [(2, .int 24), (0, .ref a0), (1, .int x1)]) O dX11_feedNumber_2 rfl (by decide) rfl ?_
  exact z_to [1, 2, 0] rfl h
set_option maxRecDepth 100000 in
set_option maxHeartbeats 4000000 in
theorem b_X11_feedNumber_3 {G : zG} {X : zX} (O : zOK G X cX11_feedNumber 3 RX11 none "feedNumber") (hR : X.R = rm_X11_feedNumber) {M : zM} {n k : Nat} {a0 : Nat} {x1 : Int32} {x2 : Int32} (h : (x2 < 0 → X.q M none) ∧ (¬ x2 < 0 → M.1 a0 = 11 ∧ (60 ≤ (M.2.2.1 a0 12) → X.q M none) ∧ (¬ 60 ≤ (M.2.2.1 a0 12) → M.1 a0 = 11 ∧ ∃ b1 : Nat, M.2.2.2 a0 6 = some b1 ∧ M.1 a0 = 11 ∧ M.1 b1 = 100 ∧ vp_in ((M.2.2.1 a0 12)) (M.2.1 b1) ∧ ∀ M2 : zM, M2 = zi M b1 (((M.2.2.1 a0 12)).toNatClampNeg) ((x1 >>> (x2 &&& 31)) &&& 255) → M2.1 a0 = 11 ∧ M2.1 a0 = 11 ∧ ∀ M3 : zM, M3 = zi M2 a0 12 ((M2.2.2.1 a0 12) + 1) → ∀ y4 : Int32, y4 = x2 + (-8) → zW G X 3 M3 n k 3 [(0, .ref a0), (1, .int x1), (2, .int y4)] []))) : zW G X 3 M n k 3 [(0, .ref a0), (1, .int x1), (2, .int x2)] [] := by
  refine z_iload_n O dX11_feedNumber_3 rfl 2 rfl ?_
  refine z_if_lt O 48 dX11_feedNumber_4 (by decide) (fun c => ?_) (fun c => ?_)
  · replace h := h.1 c
    exact z_vret O dX11_feedNumber_48 h
  · replace h := h.2 c
    refine z_aload_n O dX11_feedNumber_7 rfl 0 rfl ?_
    obtain ⟨hk, h⟩ := h
    refine z_geti O zf_X11_250_10 dX11_feedNumber_8 hk ?_
    refine z_bipush (v := 60) O dX11_feedNumber_11 rfl ?_
    refine z_icmp_ge O 48 dX11_feedNumber_13 (by decide) (fun c => ?_) (fun c => ?_)
    · replace h := h.1 c
      exact z_vret O dX11_feedNumber_48 h
    · replace h := h.2 c
      refine z_aload_n O dX11_feedNumber_16 rfl 0 rfl ?_
      obtain ⟨hk, b1, hr, h⟩ := h
      refine z_getr O zf_X11_47_10 dX11_feedNumber_17 hk hr ?_
      refine z_aload_n O dX11_feedNumber_20 rfl 0 rfl ?_
      obtain ⟨hk, h⟩ := h
      refine z_geti O zf_X11_250_10 dX11_feedNumber_21 hk ?_
      refine z_iload_n O dX11_feedNumber_24 rfl 1 rfl ?_
      refine z_iload_n O dX11_feedNumber_25 rfl 2 rfl ?_
      refine z_ishr O dX11_feedNumber_26 ?_
      refine z_sipush (v := 255) O dX11_feedNumber_27 rfl ?_
      refine z_iand O dX11_feedNumber_30 ?_
      obtain ⟨hk, hi, h⟩ := h
      refine z_iast O dX11_feedNumber_31 hk hi ?_
      generalize eM2 : zi M b1 (((M.2.2.1 a0 12)).toNatClampNeg) ((x1 >>> (x2 &&& 31)) &&& 255) = M2
      replace h := h M2 eM2.symm
      refine z_aload_n O dX11_feedNumber_32 rfl 0 rfl ?_
      refine z_dup O dX11_feedNumber_33 rfl ?_
      obtain ⟨hk, h⟩ := h
      refine z_geti O zf_X11_250_10 dX11_feedNumber_34 hk ?_
      refine z_iconst (v := 1) O dX11_feedNumber_37 rfl ?_
      refine z_iadd O dX11_feedNumber_38 ?_
      obtain ⟨hk, h⟩ := h
      refine z_puti O zp_X11_250_10 dX11_feedNumber_39 hk ?_
      generalize eM3 : zi M2 a0 12 ((M2.2.2.1 a0 12) + 1) = M3
      replace h := h M3 eM3.symm
      obtain ⟨y4, ey4⟩ : ∃ y : Int32, y = x2 + (-8) := ⟨_, rfl⟩
      replace h := h y4 ey4
      refine z_iinc (v := y4) (lv' := [(2, .int y4), (0, .ref a0), (1, .int x1)]) O dX11_feedNumber_42 (q := 2) rfl (by rw [ey4]; rfl) (by decide) rfl ?_
      refine z_goto O 3 dX11_feedNumber_45 (by decide) ?_
      exact z_to [1, 2, 0] rfl h
set_option maxRecDepth 100000 in
set_option maxHeartbeats 4000000 in
theorem b_X11_end_0 {G : zG} {X : zX} (O : zOK G X cX11_end 2 RX11 (some .int) "end") (hR : X.R = rm_X11_end) {M : zM} {n k : Nat} {a0 : Nat} {x1 : Int32} (h : (x1 < 0 → X.q M (some (.int (-1)))) ∧ (¬ x1 < 0 → M.1 a0 = 11 ∧ (x1 ≤ (M.2.2.1 a0 12) → M.1 a0 = 11 ∧ ∀ M1 : zM, M1 = zi M a0 12 x1 → X.q M1 (some (.int x1))) ∧ (¬ x1 ≤ (M.2.2.1 a0 12) → X.q M (some (.int (-1)))))) : zW G X 2 M n k 0 [(0, .ref a0), (1, .int x1)] [] := by
  refine z_iload_n O dX11_end_0 rfl 1 rfl ?_
  refine z_if_lt O 12 dX11_end_1 (by decide) (fun c => ?_) (fun c => ?_)
  · replace h := h.1 c
    refine z_iconst (v := (-1)) O dX11_end_12 rfl ?_
    exact z_iret O dX11_end_13 h
  · replace h := h.2 c
    refine z_iload_n O dX11_end_4 rfl 1 rfl ?_
    refine z_aload_n O dX11_end_5 rfl 0 rfl ?_
    obtain ⟨hk, h⟩ := h
    refine z_geti O zf_X11_250_10 dX11_end_6 hk ?_
    refine z_icmp_le O 14 dX11_end_9 (by decide) (fun c => ?_) (fun c => ?_)
    · replace h := h.1 c
      refine z_aload_n O dX11_end_14 rfl 0 rfl ?_
      refine z_iload_n O dX11_end_15 rfl 1 rfl ?_
      obtain ⟨hk, h⟩ := h
      refine z_puti O zp_X11_250_10 dX11_end_16 hk ?_
      generalize eM1 : zi M a0 12 x1 = M1
      replace h := h M1 eM1.symm
      refine z_iload_n O dX11_end_19 rfl 1 rfl ?_
      exact z_iret O dX11_end_20 h
    · replace h := h.2 c
      refine z_iconst (v := (-1)) O dX11_end_12 rfl ?_
      exact z_iret O dX11_end_13 h
set_option maxRecDepth 100000 in
set_option maxHeartbeats 4000000 in
theorem b_X11_raw_0 {G : zG} {X : zX} (O : zOK G X cX11_raw 4 RX11 (some .int) "raw") (hR : X.R = rm_X11_raw) {M : zM} {n k : Nat} {a0 : Nat} {x1 : Int32} (h : M.1 a0 = 11 ∧ zC G yX11_lineAt cX11_lineAt 2 (some (.object "HouseWires$Line")) rm_X11_lineAt M [.ref a0, .int x1] (fun M1 v => (v = some .null ∧ X.q M1 (some (.int (-1)))) ∨ ∃ b2 : Nat, v = some (.ref b2) ∧ M1.1 a0 = 11 ∧ zC G yX11_isWithin cX11_isWithin 3 (some .boolean) rm_X11_isWithin M1 [.int (M1.2.2.1 a0 12), .int 8, .int 23] (fun M3 v => ∃ r4 : Int32, v = some (.int r4) ∧ (¬ r4 = 0 → M3.1 b2 = 6 ∧ ∃ b5 : Nat, M3.2.2.2 b2 1 = some b5 ∧ M3.1 b5 = 8 ∧ zC G yX7_isFull cX7_isFull 1 (some .boolean) rm_X7_isFull M3 [.ref b5] (fun M6 v => ∃ r7 : Int32, v = some (.int r7) ∧ (r7 = 0 → M6.1 a0 = 11 ∧ ∃ b8 : Nat, M6.2.2.2 a0 6 = some b8 ∧ M6.1 a0 = 11 ∧ ∃ b9 : Nat, M6.2.2.2 a0 8 = some b9 ∧ M6.1 b9 = 10 ∧ ∃ b10 : Nat, M6.2.2.2 b9 0 = some b10 ∧ M6.1 a0 = 11 ∧ False) ∧ (¬ r7 = 0 → X.q M6 (some (.int (-2)))))) ∧ (r4 = 0 → X.q M3 (some (.int (-1))))))) : zW G X 4 M n k 0 [(0, .ref a0), (1, .int x1)] [] := by
  refine z_aload_n O dX11_raw_0 rfl 0 rfl ?_
  refine z_iload_n O dX11_raw_1 rfl 1 rfl ?_
  obtain ⟨hk, h⟩ := h
  refine z_callV0 (As := [.int x1]) O zc_X11_82 h hk rfl (zRm_of hR (by decide) (by decide)) (Nat.le_of_ble_eq_true rfl) dX11_raw_2 rfl rfl rfl (fun M1 v h => ?_)
  rcases h with ⟨rfl, h⟩ | ⟨b2, rfl, h⟩
  · skip
    refine z_astore_nN (lv' := [(2, .null), (0, .ref a0), (1, .int x1)]) O dX11_raw_5 rfl (by decide) rfl ?_
    refine z_aload_nN O dX11_raw_6 rfl 0 rfl ?_
    refine z_ifnullN O 24 dX11_raw_7 (by decide) ?_
    refine z_iconst (v := (-1)) O dX11_raw_24 rfl ?_
    exact z_iret O dX11_raw_25 h
  · skip
    refine z_astore_n (lv' := [(2, .ref b2), (0, .ref a0), (1, .int x1)]) O dX11_raw_5 rfl (by decide) rfl ?_
    refine z_aload_n O dX11_raw_6 rfl 0 rfl ?_
    refine z_ifnull O dX11_raw_7 ?_
    refine z_aload_n O dX11_raw_10 rfl 1 rfl ?_
    obtain ⟨hk, h⟩ := h
    refine z_geti O zf_X11_250_10 dX11_raw_11 hk ?_
    refine z_bipush (v := 8) O dX11_raw_14 rfl ?_
    refine z_bipush (v := 23) O dX11_raw_16 rfl ?_
    refine z_callS0 (As := [.int (M1.2.2.1 a0 12), .int 8, .int 23]) O zc_X11_71 h rfl (zRm_of hR (by decide) (by decide)) (Nat.le_of_ble_eq_true rfl) dX11_raw_18 rfl rfl rfl (fun M3 v h => ?_)
    obtain ⟨r4, rfl, h⟩ := h
    refine z_if_ne O 26 dX11_raw_21 (by decide) (fun c => ?_) (fun c => ?_)
    · replace h := h.1 c
      refine z_aload_n O dX11_raw_26 rfl 0 rfl ?_
      obtain ⟨hk, b5, hr, h⟩ := h
      refine z_getr O zf_X11_257_5 dX11_raw_27 hk hr ?_
      refine z_astore_n (lv' := [(3, .ref b5), (2, .ref b2), (0, .ref a0), (1, .int x1)]) O dX11_raw_30 rfl (by decide) rfl ?_
      refine z_aload_n O dX11_raw_31 rfl 0 rfl ?_
      obtain ⟨hk, h⟩ := h
      refine z_callV0 (As := []) O zc_X11_260 h hk rfl (zRm_of hR (by decide) (by decide)) (Nat.le_of_ble_eq_true rfl) dX11_raw_32 rfl rfl rfl (fun M6 v h => ?_)
      obtain ⟨r7, rfl, h⟩ := h
      refine z_if_eq O 41 dX11_raw_35 (by decide) (fun c => ?_) (fun c => ?_)
      · replace h := h.1 c
        refine z_aload_n O dX11_raw_41 rfl 2 rfl ?_
        obtain ⟨hk, b8, hr, h⟩ := h
        refine z_getr O zf_X11_47_10 dX11_raw_42 hk hr ?_
        refine z_iconst (v := 0) O dX11_raw_45 rfl ?_
        refine z_aload_n O dX11_raw_46 rfl 2 rfl ?_
        obtain ⟨hk, b9, hr, h⟩ := h
        refine z_getr O zf_X11_58_10 dX11_raw_47 hk hr ?_
        obtain ⟨hk, b10, hr, h⟩ := h
        refine z_getr O zf_X11_264_9 dX11_raw_50 hk hr ?_
        refine z_iconst (v := 0) O dX11_raw_53 rfl ?_
        refine z_aload_n O dX11_raw_54 rfl 2 rfl ?_
        obtain ⟨hk, h⟩ := h
        refine z_geti O zf_X11_250_10 dX11_raw_55 hk ?_
        exact False.elim h
      · replace h := h.2 c
        refine z_bipush (v := (-2)) O dX11_raw_38 rfl ?_
        exact z_iret O dX11_raw_40 h
    · replace h := h.2 c
      refine z_iconst (v := (-1)) O dX11_raw_24 rfl ?_
      exact z_iret O dX11_raw_25 h
set_option maxRecDepth 100000 in
set_option maxHeartbeats 4000000 in
theorem b_X11_harm_0 {G : zG} {X : zX} (O : zOK G X cX11_harm 4 RX11 (some .boolean) "harm") (hR : X.R = rm_X11_harm) {M : zM} {n k : Nat} {a0 : Nat} {x1 : Int32} {x2 : Int32} {x3 : Int32} (h : zC G yX11_isWithin cX11_isWithin 3 (some .boolean) rm_X11_isWithin M [.int x1, .int 0, .int 500] (fun M1 v => ∃ r2 : Int32, v = some (.int r2) ∧ (r2 = 0 → X.q M1 (some (.int 0))) ∧ (¬ r2 = 0 → zC G yX11_isWithin cX11_isWithin 3 (some .boolean) rm_X11_isWithin M1 [.int x2, .int 0, .int 22] (fun M3 v => ∃ r4 : Int32, v = some (.int r4) ∧ (r4 = 0 → X.q M3 (some (.int 0))) ∧ (¬ r4 = 0 → zC G yX11_isWithin cX11_isWithin 3 (some .boolean) rm_X11_isWithin M3 [.int x3, .int 1, .int 255] (fun M5 v => ∃ r6 : Int32, v = some (.int r6) ∧ (¬ r6 = 0 → M5.1 a0 = 11 ∧ ∃ b7 : Nat, M5.2.2.2 a0 5 = some b7 ∧ M5.1 a0 = 11 ∧ ∃ b8 : Nat, M5.2.2.2 a0 0 = some b8 ∧ M5.1 b8 = 9 ∧ M5.1 b7 = 5 ∧ zC G yX4_add cX4_add 5 (some .boolean) rm_X4_add M5 [.ref b7, .int ((M5.2.2.1 b8 1) + x1), .int x2, .int x3] (fun M9 v => ∃ r10 : Int32, v = some (.int r10) ∧ (r10 = 0 ∨ r10 = 1) ∧ X.q M9 (some (.int r10)))) ∧ (r6 = 0 → X.q M5 (some (.int 0))))))))) : zW G X 4 M n k 0 [(0, .ref a0), (1, .int x1), (2, .int x2), (3, .int x3)] [] := by
  refine z_iload_n O dX11_harm_0 rfl 1 rfl ?_
  refine z_iconst (v := 0) O dX11_harm_1 rfl ?_
  refine z_sipush (v := 500) O dX11_harm_2 rfl ?_
  refine z_callS0 (As := [.int x1, .int 0, .int 500]) O zc_X11_71 h rfl (zRm_of hR (by decide) (by decide)) (Nat.le_of_ble_eq_true rfl) dX11_harm_5 rfl rfl rfl (fun M1 v h => ?_)
  obtain ⟨r2, rfl, h⟩ := h
  refine z_if_eq O 32 dX11_harm_8 (by decide) (fun c => ?_) (fun c => ?_)
  · replace h := h.1 c
    refine z_iconst (v := 0) O dX11_harm_32 rfl ?_
    exact z_zret O dX11_harm_33 (by decide) h
  · replace h := h.2 c
    refine z_iload_n O dX11_harm_11 rfl 2 rfl ?_
    refine z_iconst (v := 0) O dX11_harm_12 rfl ?_
    refine z_bipush (v := 22) O dX11_harm_13 rfl ?_
    refine z_callS0 (As := [.int x2, .int 0, .int 22]) O zc_X11_71 h rfl (zRm_of hR (by decide) (by decide)) (Nat.le_of_ble_eq_true rfl) dX11_harm_15 rfl rfl rfl (fun M3 v h => ?_)
    obtain ⟨r4, rfl, h⟩ := h
    refine z_if_eq O 32 dX11_harm_18 (by decide) (fun c => ?_) (fun c => ?_)
    · replace h := h.1 c
      refine z_iconst (v := 0) O dX11_harm_32 rfl ?_
      exact z_zret O dX11_harm_33 (by decide) h
    · replace h := h.2 c
      refine z_iload_n O dX11_harm_21 rfl 3 rfl ?_
      refine z_iconst (v := 1) O dX11_harm_22 rfl ?_
      refine z_sipush (v := 255) O dX11_harm_23 rfl ?_
      refine z_callS0 (As := [.int x3, .int 1, .int 255]) O zc_X11_71 h rfl (zRm_of hR (by decide) (by decide)) (Nat.le_of_ble_eq_true rfl) dX11_harm_26 rfl rfl rfl (fun M5 v h => ?_)
      obtain ⟨r6, rfl, h⟩ := h
      refine z_if_ne O 34 dX11_harm_29 (by decide) (fun c => ?_) (fun c => ?_)
      · replace h := h.1 c
        refine z_aload_n O dX11_harm_34 rfl 0 rfl ?_
        obtain ⟨hk, b7, hr, h⟩ := h
        refine z_getr O zf_X11_43_10 dX11_harm_35 hk hr ?_
        refine z_aload_n O dX11_harm_38 rfl 0 rfl ?_
        obtain ⟨hk, b8, hr, h⟩ := h
        refine z_getr O zf_X11_10_10 dX11_harm_39 hk hr ?_
        obtain ⟨hk, h⟩ := h
        refine z_geti O zf_X11_280_8 dX11_harm_42 hk ?_
        refine z_iload_n O dX11_harm_45 rfl 1 rfl ?_
        refine z_iadd O dX11_harm_46 ?_
        refine z_iload_n O dX11_harm_47 rfl 2 rfl ?_
        refine z_iload_n O dX11_harm_48 rfl 3 rfl ?_
        obtain ⟨hk, h⟩ := h
        refine z_callV0 (As := [.int ((M5.2.2.1 b8 1) + x1), .int x2, .int x3]) O zc_X11_283 h hk rfl (zRm_of hR (by decide) (by decide)) (Nat.le_of_ble_eq_true rfl) dX11_harm_49 rfl rfl rfl (fun M9 v h => ?_)
        obtain ⟨r10, rfl, h⟩ := h
        exact z_zret O dX11_harm_52 h.1 h.2
      · replace h := h.2 c
        refine z_iconst (v := 0) O dX11_harm_32 rfl ?_
        exact z_zret O dX11_harm_33 (by decide) h
set_option maxRecDepth 100000 in
set_option maxHeartbeats 4000000 in
theorem b_X11_step_0 {G : zG} {X : zX} (O : zOK G X cX11_step 6 RX11 (some .int) "step") (hR : X.R = rm_X11_step) {M : zM} {n k : Nat} {a0 : Nat} {x1 : Int32} (h : zC G yX11_isWithin cX11_isWithin 3 (some .boolean) rm_X11_isWithin M [.int x1, .int 1, .int 200] (fun M1 v => ∃ r2 : Int32, v = some (.int r2) ∧ (¬ r2 = 0 → M1.1 a0 = 11 ∧ ∃ b3 : Nat, M1.2.2.2 a0 0 = some b3 ∧ M1.1 b3 = 9 ∧ ∀ y4 : Int32, y4 = (M1.2.2.1 b3 1) → zW G X 6 M1 n k 32 [(0, .ref a0), (1, .int x1), (2, .int y4), (3, .int 0)] []) ∧ (r2 = 0 → False))) : zW G X 6 M n k 0 [(0, .ref a0), (1, .int x1)] [] := by
  refine z_iload_n O dX11_step_0 rfl 1 rfl ?_
  refine z_iconst (v := 1) O dX11_step_1 rfl ?_
  refine z_sipush (v := 200) O dX11_step_2 rfl ?_
  refine z_callS0 (As := [.int x1, .int 1, .int 200]) O zc_X11_71 h rfl (zRm_of hR (by decide) (by decide)) (Nat.le_of_ble_eq_true rfl) dX11_step_5 rfl rfl rfl (fun M1 v h => ?_)
  obtain ⟨r2, rfl, h⟩ := h
  refine z_if_ne O 22 dX11_step_8 (by decide) (fun c => ?_) (fun c => ?_)
  · replace h := h.1 c
    refine z_aload_n O dX11_step_22 rfl 0 rfl ?_
    obtain ⟨hk, b3, hr, h⟩ := h
    refine z_getr O zf_X11_10_10 dX11_step_23 hk hr ?_
    obtain ⟨hk, h⟩ := h
    refine z_geti O zf_X11_280_8 dX11_step_26 hk ?_
    refine z_topi (fun y4 ey4 => ?_)
    replace h := h y4 ey4
    refine z_istore_n (lv' := [(2, .int y4), (0, .ref a0), (1, .int x1)]) O dX11_step_29 rfl (by decide) rfl ?_
    refine z_iconst (v := 0) O dX11_step_30 rfl ?_
    refine z_istore_n (lv' := [(3, .int 0), (2, .int y4), (0, .ref a0), (1, .int x1)]) O dX11_step_31 rfl (by decide) rfl ?_
    exact z_to [2, 3, 1, 0] rfl h
  · replace h := h.2 c
    exact False.elim h
set_option maxRecDepth 100000 in
set_option maxHeartbeats 4000000 in
theorem b_X11_step_32 {G : zG} {X : zX} (O : zOK G X cX11_step 6 RX11 (some .int) "step") (hR : X.R = rm_X11_step) {M : zM} {n k : Nat} {a0 : Nat} {x1 : Int32} {x2 : Int32} {x3 : Int32} (h : (x1 ≤ x3 → M.1 a0 = 11 ∧ ∃ b1 : Nat, M.2.2.2 a0 0 = some b1 ∧ M.1 b1 = 9 ∧ X.q M (some (.int ((M.2.2.1 b1 1) - x2)))) ∧ (¬ x1 ≤ x3 → M.1 a0 = 11 ∧ ∃ b2 : Nat, M.2.2.2 a0 0 = some b2 ∧ M.1 b2 = 9 ∧ M.1 b2 = 9 ∧ ∀ M3 : zM, M3 = zi M b2 0 ((M.2.2.1 b2 0) + 1) → zW G X 6 M3 n k 53 [(0, .ref a0), (1, .int x1), (2, .int x2), (3, .int x3), (4, .int 0)] [])) : zW G X 6 M n k 32 [(0, .ref a0), (1, .int x1), (2, .int x2), (3, .int x3)] [] := by
  refine z_iload_n O dX11_step_32 rfl 3 rfl ?_
  refine z_iload_n O dX11_step_33 rfl 1 rfl ?_
  refine z_icmp_ge O 140 dX11_step_34 (by decide) (fun c => ?_) (fun c => ?_)
  · replace h := h.1 c
    refine z_aload_n O dX11_step_140 rfl 0 rfl ?_
    obtain ⟨hk, b1, hr, h⟩ := h
    refine z_getr O zf_X11_10_10 dX11_step_141 hk hr ?_
    obtain ⟨hk, h⟩ := h
    refine z_geti O zf_X11_280_8 dX11_step_144 hk ?_
    refine z_iload_n O dX11_step_147 rfl 2 rfl ?_
    refine z_isub O dX11_step_148 ?_
    exact z_iret O dX11_step_149 h
  · replace h := h.2 c
    refine z_aload_n O dX11_step_37 rfl 0 rfl ?_
    obtain ⟨hk, b2, hr, h⟩ := h
    refine z_getr O zf_X11_10_10 dX11_step_38 hk hr ?_
    refine z_dup O dX11_step_41 rfl ?_
    obtain ⟨hk, h⟩ := h
    refine z_geti O zf_X11_292_8 dX11_step_42 hk ?_
    refine z_iconst (v := 1) O dX11_step_45 rfl ?_
    refine z_iadd O dX11_step_46 ?_
    obtain ⟨hk, h⟩ := h
    refine z_puti O zp_X11_292_8 dX11_step_47 hk ?_
    generalize eM3 : zi M b2 0 ((M.2.2.1 b2 0) + 1) = M3
    replace h := h M3 eM3.symm
    refine z_iconst (v := 0) O dX11_step_50 rfl ?_
    refine z_istore (lv' := [(4, .int 0), (0, .ref a0), (1, .int x1), (2, .int x2), (3, .int x3)]) O dX11_step_51 (by decide) rfl ?_
    exact z_to [1, 2, 3, 4, 0] rfl h
set_option maxRecDepth 100000 in
set_option maxHeartbeats 4000000 in
theorem b_X11_step_53 {G : zG} {X : zX} (O : zOK G X cX11_step 6 RX11 (some .int) "step") (hR : X.R = rm_X11_step) {M : zM} {n k : Nat} {a0 : Nat} {x1 : Int32} {x2 : Int32} {x3 : Int32} {x4 : Int32} (h : M.1 a0 = 11 ∧ ((M.2.2.1 a0 9) ≤ x4 → zW G X 6 M n k 106 [(0, .ref a0), (1, .int x1), (2, .int x2), (3, .int x3), (4, .int 0)] []) ∧ (¬ (M.2.2.1 a0 9) ≤ x4 → M.1 a0 = 11 ∧ ∃ b1 : Nat, M.2.2.2 a0 0 = some b1 ∧ M.1 b1 = 9 ∧ ((M.2.2.1 b1 6) ≤ 0 → zW G X 6 M n k 106 [(0, .ref a0), (1, .int x1), (2, .int x2), (3, .int x3), (4, .int 0)] []) ∧ (¬ (M.2.2.1 b1 6) ≤ 0 → M.1 a0 = 11 ∧ ∃ b2 : Nat, M.2.2.2 a0 1 = some b2 ∧ M.1 b2 = 102 ∧ vp_in x4 (M.2.1 b2) ∧ ∃ b3 : Nat, M.2.2.2 b2 x4.toNatClampNeg = some b3 ∧ M.1 b3 = 6 ∧ zC G yX5_chooseSender cX5_chooseSender 6 (some (.object "HouseWires$Row")) rm_X5_chooseSender M [.ref b3] (fun M4 v => (v = some .null ∧ ∀ y6 : Int32, y6 = x4 + 1 → zW G X 6 M4 n k 53 [(0, .ref a0), (1, .int x1), (2, .int x2), (3, .int x3), (4, .int y6)] []) ∨ ∃ b5 : Nat, v = some (.ref b5) ∧ M4.1 a0 = 11 ∧ zC G yX11_transmit cX11_transmit 11 none rm_X11_transmit M4 [.ref a0, .int x4, .ref b5] (fun M7 v => v = none ∧ ∀ y8 : Int32, y8 = x4 + 1 → zW G X 6 M7 n k 53 [(0, .ref a0), (1, .int x1), (2, .int x2), (3, .int x3), (4, .int y8)] []))))) : zW G X 6 M n k 53 [(0, .ref a0), (1, .int x1), (2, .int x2), (3, .int x3), (4, .int x4)] [] := by
  refine z_iload O dX11_step_53 4 rfl ?_
  refine z_aload_n O dX11_step_55 rfl 0 rfl ?_
  obtain ⟨hk, h⟩ := h
  refine z_geti O zf_X11_68_10 dX11_step_56 hk ?_
  refine z_icmp_ge O 103 dX11_step_59 (by decide) (fun c => ?_) (fun c => ?_)
  · replace h := h.1 c
    refine z_iconst (v := 0) O dX11_step_103 rfl ?_
    refine z_istore (lv' := [(4, .int 0), (0, .ref a0), (1, .int x1), (2, .int x2), (3, .int x3)]) O dX11_step_104 (by decide) rfl ?_
    exact z_to [1, 2, 3, 4, 0] rfl h
  · replace h := h.2 c
    refine z_aload_n O dX11_step_62 rfl 0 rfl ?_
    obtain ⟨hk, b1, hr, h⟩ := h
    refine z_getr O zf_X11_10_10 dX11_step_63 hk hr ?_
    obtain ⟨hk, h⟩ := h
    refine z_geti O zf_X11_295_8 dX11_step_66 hk ?_
    refine z_if_le O 103 dX11_step_69 (by decide) (fun c => ?_) (fun c => ?_)
    · replace h := h.1 c
      refine z_iconst (v := 0) O dX11_step_103 rfl ?_
      refine z_istore (lv' := [(4, .int 0), (0, .ref a0), (1, .int x1), (2, .int x2), (3, .int x3)]) O dX11_step_104 (by decide) rfl ?_
      exact z_to [1, 2, 3, 4, 0] rfl h
    · replace h := h.2 c
      refine z_aload_n O dX11_step_72 rfl 0 rfl ?_
      obtain ⟨hk, b2, hr, h⟩ := h
      refine z_getr O zf_X11_18_10 dX11_step_73 hk hr ?_
      refine z_iload O dX11_step_76 4 rfl ?_
      obtain ⟨hk, hi, b3, hr, h⟩ := h
      refine z_ald (t := 0) O rfl dX11_step_78 hk hi hr ?_
      obtain ⟨hk, h⟩ := h
      refine z_callV0 (As := []) O zc_X11_298 h hk rfl (zRm_of hR (by decide) (by decide)) (Nat.le_of_ble_eq_true rfl) dX11_step_79 rfl rfl rfl (fun M4 v h => ?_)
      rcases h with ⟨rfl, h⟩ | ⟨b5, rfl, h⟩
      · skip
        refine z_astoreN (lv' := [(5, .null), (0, .ref a0), (1, .int x1), (2, .int x2), (3, .int x3), (4, .int x4)]) O dX11_step_82 (by decide) rfl ?_
        refine z_aloadN O dX11_step_84 0 rfl ?_
        refine z_ifnullN O 97 dX11_step_86 (by decide) ?_
        obtain ⟨y6, ey6⟩ : ∃ y : Int32, y = x4 + 1 := ⟨_, rfl⟩
        replace h := h y6 ey6
        refine z_iinc (v := y6) (lv' := [(4, .int y6), (5, .null), (0, .ref a0), (1, .int x1), (2, .int x2), (3, .int x3)]) O dX11_step_97 (q := 5) rfl (by rw [ey6]; rfl) (by decide) rfl ?_
        refine z_goto O 53 dX11_step_100 (by decide) ?_
        exact z_to [2, 3, 4, 5, 0] rfl h
      · skip
        refine z_astore (lv' := [(5, .ref b5), (0, .ref a0), (1, .int x1), (2, .int x2), (3, .int x3), (4, .int x4)]) O dX11_step_82 (by decide) rfl ?_
        refine z_aload O dX11_step_84 0 rfl ?_
        refine z_ifnull O dX11_step_86 ?_
        refine z_aload_n O dX11_step_89 rfl 1 rfl ?_
        refine z_iload O dX11_step_90 5 rfl ?_
        refine z_aload O dX11_step_92 0 rfl ?_
        obtain ⟨hk, h⟩ := h
        refine z_callV0 (As := [.int x4, .ref b5]) O zc_X11_302 h hk rfl (zRm_of hR (by decide) (by decide)) (Nat.le_of_ble_eq_true rfl) dX11_step_94 rfl rfl rfl (fun M7 v h => ?_)
        obtain ⟨rfl, h⟩ := h
        obtain ⟨y8, ey8⟩ : ∃ y : Int32, y = x4 + 1 := ⟨_, rfl⟩
        replace h := h y8 ey8
        refine z_iinc (v := y8) (lv' := [(4, .int y8), (5, .ref b5), (0, .ref a0), (1, .int x1), (2, .int x2), (3, .int x3)]) O dX11_step_97 (q := 5) rfl (by rw [ey8]; rfl) (by decide) rfl ?_
        refine z_goto O 53 dX11_step_100 (by decide) ?_
        exact z_to [2, 3, 4, 5, 0] rfl h
set_option maxRecDepth 100000 in
set_option maxHeartbeats 4000000 in
theorem b_X11_step_106 {G : zG} {X : zX} (O : zOK G X cX11_step 6 RX11 (some .int) "step") (hR : X.R = rm_X11_step) {M : zM} {n k : Nat} {a0 : Nat} {x1 : Int32} {x2 : Int32} {x3 : Int32} {x4 : Int32} (h : M.1 a0 = 11 ∧ ((M.2.2.1 a0 10) ≤ x4 → ∀ y1 : Int32, y1 = x3 + 1 → zW G X 6 M n k 32 [(0, .ref a0), (1, .int x1), (2, .int x2), (3, .int y1)] []) ∧ (¬ (M.2.2.1 a0 10) ≤ x4 → M.1 a0 = 11 ∧ ∃ b2 : Nat, M.2.2.2 a0 2 = some b2 ∧ M.1 b2 = 103 ∧ vp_in x4 (M.2.1 b2) ∧ ∃ b3 : Nat, M.2.2.2 b2 x4.toNatClampNeg = some b3 ∧ M.1 b3 = 2 ∧ ∃ b4 : Nat, M.2.2.2 b3 3 = some b4 ∧ M.1 b4 = 1 ∧ zC G yX0_tick cX0_tick 1 none rm_X0_tick M [.ref b4] (fun M5 v => v = none ∧ ∀ y6 : Int32, y6 = x4 + 1 → zW G X 6 M5 n k 106 [(0, .ref a0), (1, .int x1), (2, .int x2), (3, .int x3), (4, .int y6)] []))) : zW G X 6 M n k 106 [(0, .ref a0), (1, .int x1), (2, .int x2), (3, .int x3), (4, .int x4)] [] := by
  refine z_iload O dX11_step_106 4 rfl ?_
  refine z_aload_n O dX11_step_108 rfl 0 rfl ?_
  obtain ⟨hk, h⟩ := h
  refine z_geti O zf_X11_86_10 dX11_step_109 hk ?_
  refine z_icmp_ge O 134 dX11_step_112 (by decide) (fun c => ?_) (fun c => ?_)
  · replace h := h.1 c
    obtain ⟨y1, ey1⟩ : ∃ y : Int32, y = x3 + 1 := ⟨_, rfl⟩
    replace h := h y1 ey1
    refine z_iinc (v := y1) (lv' := [(3, .int y1), (0, .ref a0), (1, .int x1), (2, .int x2), (4, .int x4)]) O dX11_step_134 (q := 3) rfl (by rw [ey1]; rfl) (by decide) rfl ?_
    refine z_goto O 32 dX11_step_137 (by decide) ?_
    exact z_to [1, 2, 3, 0] rfl h
  · replace h := h.2 c
    refine z_aload_n O dX11_step_115 rfl 0 rfl ?_
    obtain ⟨hk, b2, hr, h⟩ := h
    refine z_getr O zf_X11_24_10 dX11_step_116 hk hr ?_
    refine z_iload O dX11_step_119 4 rfl ?_
    obtain ⟨hk, hi, b3, hr, h⟩ := h
    refine z_ald (t := 1) O rfl dX11_step_121 hk hi hr ?_
    obtain ⟨hk, b4, hr, h⟩ := h
    refine z_getr O zf_X11_200_1 dX11_step_122 hk hr ?_
    obtain ⟨hk, h⟩ := h
    refine z_callV0 (As := []) O zc_X11_306 h hk rfl (zRm_of hR (by decide) (by decide)) (Nat.le_of_ble_eq_true rfl) dX11_step_125 rfl rfl rfl (fun M5 v h => ?_)
    obtain ⟨rfl, h⟩ := h
    obtain ⟨y6, ey6⟩ : ∃ y : Int32, y = x4 + 1 := ⟨_, rfl⟩
    replace h := h y6 ey6
    refine z_iinc (v := y6) (lv' := [(4, .int y6), (0, .ref a0), (1, .int x1), (2, .int x2), (3, .int x3)]) O dX11_step_128 (q := 4) rfl (by rw [ey6]; rfl) (by decide) rfl ?_
    refine z_goto O 106 dX11_step_131 (by decide) ?_
    exact z_to [1, 2, 3, 4, 0] rfl h
set_option maxRecDepth 100000 in
set_option maxHeartbeats 4000000 in
theorem b_X11_sent_0 {G : zG} {X : zX} (O : zOK G X cX11_sent 2 RX11 (some .int) "sent") (hR : X.R = rm_X11_sent) {M : zM} {n k : Nat} {a0 : Nat} {x1 : Int32} (h : M.1 a0 = 11 ∧ ∃ b1 : Nat, M.2.2.2 a0 0 = some b1 ∧ M.1 b1 = 9 ∧ ((M.2.2.1 b1 1) ≤ 0 → zW G X 2 M n k 23 [(0, .ref a0), (1, .int x1)] []) ∧ (¬ (M.2.2.1 b1 1) ≤ 0 → (¬ x1 = (-1) → zW G X 2 M n k 23 [(0, .ref a0), (1, .int x1)] []) ∧ (x1 = (-1) → M.1 a0 = 11 ∧ ∃ b2 : Nat, M.2.2.2 a0 7 = some b2 ∧ M.1 b2 = 10 ∧ X.q M (some (.int (M.2.2.1 b2 1)))))) : zW G X 2 M n k 0 [(0, .ref a0), (1, .int x1)] [] := by
  refine z_aload_n O dX11_sent_0 rfl 0 rfl ?_
  obtain ⟨hk, b1, hr, h⟩ := h
  refine z_getr O zf_X11_10_10 dX11_sent_1 hk hr ?_
  obtain ⟨hk, h⟩ := h
  refine z_geti O zf_X11_280_8 dX11_sent_4 hk ?_
  refine z_if_le O 23 dX11_sent_7 (by decide) (fun c => ?_) (fun c => ?_)
  · replace h := h.1 c
    exact h
  · replace h := h.2 c
    refine z_iload_n O dX11_sent_10 rfl 1 rfl ?_
    refine z_iconst (v := (-1)) O dX11_sent_11 rfl ?_
    refine z_icmp_ne O 23 dX11_sent_12 (by decide) (fun c => ?_) (fun c => ?_)
    · replace h := h.1 c
      exact h
    · replace h := h.2 c
      refine z_aload_n O dX11_sent_15 rfl 0 rfl ?_
      obtain ⟨hk, b2, hr, h⟩ := h
      refine z_getr O zf_X11_54_10 dX11_sent_16 hk hr ?_
      obtain ⟨hk, h⟩ := h
      refine z_geti O zf_X11_273_9 dX11_sent_19 hk ?_
      exact z_iret O dX11_sent_22 h
set_option maxRecDepth 100000 in
set_option maxHeartbeats 4000000 in
theorem b_X11_sent_23 {G : zG} {X : zX} (O : zOK G X cX11_sent 2 RX11 (some .int) "sent") (hR : X.R = rm_X11_sent) {M : zM} {n k : Nat} {a0 : Nat} {x1 : Int32} (h : M.1 a0 = 11 ∧ ∃ b1 : Nat, M.2.2.2 a0 7 = some b1 ∧ M.1 b1 = 10 ∧ zC G yX11_isWithin cX11_isWithin 3 (some .boolean) rm_X11_isWithin M [.int x1, .int 0, .int ((M.2.2.1 b1 1) - 1)] (fun M2 v => ∃ r3 : Int32, v = some (.int r3) ∧ (¬ r3 = 0 → M2.1 a0 = 11 ∧ ∃ b4 : Nat, M2.2.2.2 a0 7 = some b4 ∧ M2.1 b4 = 10 ∧ ∃ b5 : Nat, M2.2.2.2 b4 0 = some b5 ∧ M2.1 b5 = 100 ∧ vp_in x1 (M2.2.1 b5) ∧ X.q M2 (some (.int (M2.2.2.1 b5 x1.toNatClampNeg)))) ∧ (r3 = 0 → False))) : zW G X 2 M n k 23 [(0, .ref a0), (1, .int x1)] [] := by
  refine z_iload_n O dX11_sent_23 rfl 1 rfl ?_
  refine z_iconst (v := 0) O dX11_sent_24 rfl ?_
  refine z_aload_n O dX11_sent_25 rfl 0 rfl ?_
  obtain ⟨hk, b1, hr, h⟩ := h
  refine z_getr O zf_X11_54_10 dX11_sent_26 hk hr ?_
  obtain ⟨hk, h⟩ := h
  refine z_geti O zf_X11_273_9 dX11_sent_29 hk ?_
  refine z_iconst (v := 1) O dX11_sent_32 rfl ?_
  refine z_isub O dX11_sent_33 ?_
  refine z_callS0 (As := [.int x1, .int 0, .int ((M.2.2.1 b1 1) - 1)]) O zc_X11_71 h rfl (zRm_of hR (by decide) (by decide)) (Nat.le_of_ble_eq_true rfl) dX11_sent_34 rfl rfl rfl (fun M2 v h => ?_)
  obtain ⟨r3, rfl, h⟩ := h
  refine z_if_ne O 51 dX11_sent_37 (by decide) (fun c => ?_) (fun c => ?_)
  · replace h := h.1 c
    refine z_aload_n O dX11_sent_51 rfl 0 rfl ?_
    obtain ⟨hk, b4, hr, h⟩ := h
    refine z_getr O zf_X11_54_10 dX11_sent_52 hk hr ?_
    obtain ⟨hk, b5, hr, h⟩ := h
    refine z_getr O zf_X11_264_9 dX11_sent_55 hk hr ?_
    refine z_iload_n O dX11_sent_58 rfl 1 rfl ?_
    obtain ⟨hk, hi, h⟩ := h
    refine z_iald O dX11_sent_59 hk hi ?_
    exact z_iret O dX11_sent_60 h
  · replace h := h.2 c
    exact False.elim h
set_option maxRecDepth 100000 in
set_option maxHeartbeats 4000000 in
theorem b_X11_count_0 {G : zG} {X : zX} (O : zOK G X cX11_count 2 RX11 (some .int) "count") (hR : X.R = rm_X11_count) {M : zM} {n k : Nat} {a0 : Nat} {x1 : Int32} (h : (x1.toInt < 0 ∨ 13 < x1.toInt → X.q M (some (.int (-1)))) ∧ (x1.toInt = 0 → M.1 a0 = 11 ∧ ∃ b1 : Nat, M.2.2.2 a0 0 = some b1 ∧ M.1 b1 = 9 ∧ X.q M (some (.int (M.2.2.1 b1 0)))) ∧ (x1.toInt = 1 → M.1 a0 = 11 ∧ X.q M (some (.int (M.2.2.1 a0 9)))) ∧ (x1.toInt = 2 → M.1 a0 = 11 ∧ X.q M (some (.int (M.2.2.1 a0 10)))) ∧ (x1.toInt = 3 → M.1 a0 = 11 ∧ X.q M (some (.int (M.2.2.1 a0 11)))) ∧ (x1.toInt = 4 → M.1 a0 = 11 ∧ ∃ b2 : Nat, M.2.2.2 a0 0 = some b2 ∧ M.1 b2 = 9 ∧ X.q M (some (.int (M.2.2.1 b2 1)))) ∧ (x1.toInt = 5 → M.1 a0 = 11 ∧ ∃ b3 : Nat, M.2.2.2 a0 0 = some b3 ∧ M.1 b3 = 9 ∧ X.q M (some (.int (M.2.2.1 b3 2)))) ∧ (x1.toInt = 6 → M.1 a0 = 11 ∧ ∃ b4 : Nat, M.2.2.2 a0 0 = some b4 ∧ M.1 b4 = 9 ∧ X.q M (some (.int (M.2.2.1 b4 3)))) ∧ (x1.toInt = 7 → M.1 a0 = 11 ∧ ∃ b5 : Nat, M.2.2.2 a0 0 = some b5 ∧ M.1 b5 = 9 ∧ X.q M (some (.int (M.2.2.1 b5 4)))) ∧ (x1.toInt = 8 → M.1 a0 = 11 ∧ ∃ b6 : Nat, M.2.2.2 a0 0 = some b6 ∧ M.1 b6 = 9 ∧ X.q M (some (.int (M.2.2.1 b6 5)))) ∧ (x1.toInt = 9 → M.1 a0 = 11 ∧ X.q M (some (.int (M.2.2.1 a0 14)))) ∧ (x1.toInt = 10 → M.1 a0 = 11 ∧ X.q M (some (.int (M.2.2.1 a0 13)))) ∧ (x1.toInt = 11 → M.1 a0 = 11 ∧ ∃ b7 : Nat, M.2.2.2 a0 0 = some b7 ∧ M.1 b7 = 9 ∧ X.q M (some (.int (M.2.2.1 b7 6)))) ∧ (x1.toInt = 12 → M.1 a0 = 11 ∧ ∃ b8 : Nat, M.2.2.2 a0 5 = some b8 ∧ M.1 b8 = 5 ∧ X.q M (some (.int (M.2.2.1 b8 3)))) ∧ (x1.toInt = 13 → M.1 a0 = 11 ∧ X.q M (some (.int (M.2.2.1 a0 12))))) : zW G X 2 M n k 0 [(0, .ref a0), (1, .int x1)] [] := by
  refine z_iload_n O dX11_count_0 rfl 1 rfl ?_
  rcases zsw x1 0 13 (by decide) with c | ⟨j, hj, c⟩
  · refine z_tsOut O 166 dX11_count_1 c (by decide) ?_
    replace h := h.1 c
    refine z_iconst (v := (-1)) O dX11_count_166 rfl ?_
    exact z_iret O dX11_count_167 h
  · replace h := h.2
    rcases zcas j 0 with hz | hz
    · subst hz
      replace h := h.1 (by rw [c]; rfl)
      refine z_tsIn (off := 71) O 72 dX11_count_1 (by rw [c]; decide) (by rw [c]; decide) (by rw [c]; rfl) (by decide) ?_
      refine z_aload_n O dX11_count_72 rfl 0 rfl ?_
      obtain ⟨hk, b1, hr, h⟩ := h
      refine z_getr O zf_X11_10_10 dX11_count_73 hk hr ?_
      obtain ⟨hk, h⟩ := h
      refine z_geti O zf_X11_292_8 dX11_count_76 hk ?_
      exact z_iret O dX11_count_79 h
    · replace h := h.2
      rcases zcas j 1 with hz | hz
      · subst hz
        replace h := h.1 (by rw [c]; rfl)
        refine z_tsIn (off := 79) O 80 dX11_count_1 (by rw [c]; decide) (by rw [c]; decide) (by rw [c]; rfl) (by decide) ?_
        refine z_aload_n O dX11_count_80 rfl 0 rfl ?_
        obtain ⟨hk, h⟩ := h
        refine z_geti O zf_X11_68_10 dX11_count_81 hk ?_
        exact z_iret O dX11_count_84 h
      · replace h := h.2
        rcases zcas j 2 with hz | hz
        · subst hz
          replace h := h.1 (by rw [c]; rfl)
          refine z_tsIn (off := 84) O 85 dX11_count_1 (by rw [c]; decide) (by rw [c]; decide) (by rw [c]; rfl) (by decide) ?_
          refine z_aload_n O dX11_count_85 rfl 0 rfl ?_
          obtain ⟨hk, h⟩ := h
          refine z_geti O zf_X11_86_10 dX11_count_86 hk ?_
          exact z_iret O dX11_count_89 h
        · replace h := h.2
          rcases zcas j 3 with hz | hz
          · subst hz
            replace h := h.1 (by rw [c]; rfl)
            refine z_tsIn (off := 89) O 90 dX11_count_1 (by rw [c]; decide) (by rw [c]; decide) (by rw [c]; rfl) (by decide) ?_
            refine z_aload_n O dX11_count_90 rfl 0 rfl ?_
            obtain ⟨hk, h⟩ := h
            refine z_geti O zf_X11_113_10 dX11_count_91 hk ?_
            exact z_iret O dX11_count_94 h
          · replace h := h.2
            rcases zcas j 4 with hz | hz
            · subst hz
              replace h := h.1 (by rw [c]; rfl)
              refine z_tsIn (off := 94) O 95 dX11_count_1 (by rw [c]; decide) (by rw [c]; decide) (by rw [c]; rfl) (by decide) ?_
              refine z_aload_n O dX11_count_95 rfl 0 rfl ?_
              obtain ⟨hk, b2, hr, h⟩ := h
              refine z_getr O zf_X11_10_10 dX11_count_96 hk hr ?_
              obtain ⟨hk, h⟩ := h
              refine z_geti O zf_X11_280_8 dX11_count_99 hk ?_
              exact z_iret O dX11_count_102 h
            · replace h := h.2
              rcases zcas j 5 with hz | hz
              · subst hz
                replace h := h.1 (by rw [c]; rfl)
                refine z_tsIn (off := 102) O 103 dX11_count_1 (by rw [c]; decide) (by rw [c]; decide) (by rw [c]; rfl) (by decide) ?_
                refine z_aload_n O dX11_count_103 rfl 0 rfl ?_
                obtain ⟨hk, b3, hr, h⟩ := h
                refine z_getr O zf_X11_10_10 dX11_count_104 hk hr ?_
                obtain ⟨hk, h⟩ := h
                refine z_geti O zf_X11_314_8 dX11_count_107 hk ?_
                exact z_iret O dX11_count_110 h
              · replace h := h.2
                rcases zcas j 6 with hz | hz
                · subst hz
                  replace h := h.1 (by rw [c]; rfl)
                  refine z_tsIn (off := 110) O 111 dX11_count_1 (by rw [c]; decide) (by rw [c]; decide) (by rw [c]; rfl) (by decide) ?_
                  refine z_aload_n O dX11_count_111 rfl 0 rfl ?_
                  obtain ⟨hk, b4, hr, h⟩ := h
                  refine z_getr O zf_X11_10_10 dX11_count_112 hk hr ?_
                  obtain ⟨hk, h⟩ := h
                  refine z_geti O zf_X11_317_8 dX11_count_115 hk ?_
                  exact z_iret O dX11_count_118 h
                · replace h := h.2
                  rcases zcas j 7 with hz | hz
                  · subst hz
                    replace h := h.1 (by rw [c]; rfl)
                    refine z_tsIn (off := 118) O 119 dX11_count_1 (by rw [c]; decide) (by rw [c]; decide) (by rw [c]; rfl) (by decide) ?_
                    refine z_aload_n O dX11_count_119 rfl 0 rfl ?_
                    obtain ⟨hk, b5, hr, h⟩ := h
                    refine z_getr O zf_X11_10_10 dX11_count_120 hk hr ?_
                    obtain ⟨hk, h⟩ := h
                    refine z_geti O zf_X11_320_8 dX11_count_123 hk ?_
                    exact z_iret O dX11_count_126 h
                  · replace h := h.2
                    rcases zcas j 8 with hz | hz
                    · subst hz
                      replace h := h.1 (by rw [c]; rfl)
                      refine z_tsIn (off := 126) O 127 dX11_count_1 (by rw [c]; decide) (by rw [c]; decide) (by rw [c]; rfl) (by decide) ?_
                      refine z_aload_n O dX11_count_127 rfl 0 rfl ?_
                      obtain ⟨hk, b6, hr, h⟩ := h
                      refine z_getr O zf_X11_10_10 dX11_count_128 hk hr ?_
                      obtain ⟨hk, h⟩ := h
                      refine z_geti O zf_X11_323_8 dX11_count_131 hk ?_
                      exact z_iret O dX11_count_134 h
                    · replace h := h.2
                      rcases zcas j 9 with hz | hz
                      · subst hz
                        replace h := h.1 (by rw [c]; rfl)
                        refine z_tsIn (off := 134) O 135 dX11_count_1 (by rw [c]; decide) (by rw [c]; decide) (by rw [c]; rfl) (by decide) ?_
                        refine z_aload_n O dX11_count_135 rfl 0 rfl ?_
                        obtain ⟨hk, h⟩ := h
                        refine z_geti O zf_X11_65_10 dX11_count_136 hk ?_
                        exact z_iret O dX11_count_139 h
                      · replace h := h.2
                        rcases zcas j 10 with hz | hz
                        · subst hz
                          replace h := h.1 (by rw [c]; rfl)
                          refine z_tsIn (off := 139) O 140 dX11_count_1 (by rw [c]; decide) (by rw [c]; decide) (by rw [c]; rfl) (by decide) ?_
                          refine z_aload_n O dX11_count_140 rfl 0 rfl ?_
                          obtain ⟨hk, h⟩ := h
                          refine z_geti O zf_X11_61_10 dX11_count_141 hk ?_
                          exact z_iret O dX11_count_144 h
                        · replace h := h.2
                          rcases zcas j 11 with hz | hz
                          · subst hz
                            replace h := h.1 (by rw [c]; rfl)
                            refine z_tsIn (off := 144) O 145 dX11_count_1 (by rw [c]; decide) (by rw [c]; decide) (by rw [c]; rfl) (by decide) ?_
                            refine z_aload_n O dX11_count_145 rfl 0 rfl ?_
                            obtain ⟨hk, b7, hr, h⟩ := h
                            refine z_getr O zf_X11_10_10 dX11_count_146 hk hr ?_
                            obtain ⟨hk, h⟩ := h
                            refine z_geti O zf_X11_295_8 dX11_count_149 hk ?_
                            exact z_iret O dX11_count_152 h
                          · replace h := h.2
                            rcases zcas j 12 with hz | hz
                            · subst hz
                              replace h := h.1 (by rw [c]; rfl)
                              refine z_tsIn (off := 152) O 153 dX11_count_1 (by rw [c]; decide) (by rw [c]; decide) (by rw [c]; rfl) (by decide) ?_
                              refine z_aload_n O dX11_count_153 rfl 0 rfl ?_
                              obtain ⟨hk, b8, hr, h⟩ := h
                              refine z_getr O zf_X11_43_10 dX11_count_154 hk hr ?_
                              obtain ⟨hk, h⟩ := h
                              refine z_geti O zf_X11_326_4 dX11_count_157 hk ?_
                              exact z_iret O dX11_count_160 h
                            · replace h := h.2
                              have hz : j = 13 := by omega
                              subst hz
                              replace h := h (by rw [c]; rfl)
                              refine z_tsIn (off := 160) O 161 dX11_count_1 (by rw [c]; decide) (by rw [c]; decide) (by rw [c]; rfl) (by decide) ?_
                              refine z_aload_n O dX11_count_161 rfl 0 rfl ?_
                              obtain ⟨hk, h⟩ := h
                              refine z_geti O zf_X11_250_10 dX11_count_162 hk ?_
                              exact z_iret O dX11_count_165 h
end
section
set_option maxRecDepth 100000 in
set_option maxHeartbeats 4000000 in
theorem b_X14_init_0 {G : zG} {X : zX} (O : zOK G X cX14_init 1 RX14 none "<init>") (hR : X.R = rm_X14_init) {M : zM} {n k : Nat} {a0 : Nat} (h : n + 9 ≤ X.R.cells ∧ k + 192 ≤ X.R.slots ∧ ∀ q1 : Nat, (∀ j, j ≤ 8 → M.1 (q1 + j) = 0) → ∀ M2 : zM, M2 = znn M q1 8 23 → M2.1 a0 = 14 ∧ ∀ M3 : zM, M3 = zr M2 a0 0 (some q1) → (n + 9) + 1 ≤ X.R.cells ∧ (k + 192) + 8 ≤ X.R.slots ∧ ∀ q4 : Nat, M3.1 q4 = 0 → ∀ M5 : zM, M5 = zn M3 q4 100 8 → M5.1 a0 = 14 ∧ ∀ M6 : zM, M6 = zr M5 a0 1 (some q4) → ((n + 9) + 1) + 1 ≤ X.R.cells ∧ ((k + 192) + 8) + 8 ≤ X.R.slots ∧ ∀ q7 : Nat, M6.1 q7 = 0 → ∀ M8 : zM, M8 = zn M6 q7 100 8 → M8.1 a0 = 14 ∧ ∀ M9 : zM, M9 = zr M8 a0 2 (some q7) → (((n + 9) + 1) + 1) + 1 ≤ X.R.cells ∧ (((k + 192) + 8) + 8) + 8 ≤ X.R.slots ∧ ∀ q10 : Nat, M9.1 q10 = 0 → ∀ M11 : zM, M11 = zn M9 q10 100 8 → M11.1 a0 = 14 ∧ ∀ M12 : zM, M12 = zr M11 a0 3 (some q10) → ((((n + 9) + 1) + 1) + 1) + 1 ≤ X.R.cells ∧ ((((k + 192) + 8) + 8) + 8) + 8 ≤ X.R.slots ∧ ∀ q13 : Nat, M12.1 q13 = 0 → ∀ M14 : zM, M14 = zn M12 q13 100 8 → M14.1 a0 = 14 ∧ ∀ M15 : zM, M15 = zr M14 a0 4 (some q13) → X.q M15 none) : zW G X 1 M n k 0 [(0, .ref a0)] [] := by
  refine z_aload_n O dX14_init_0 rfl 0 rfl ?_
  refine z_obj O zob_X14_3 zob_1 zob_2 dX14_init_1 (by rw [hR]; decide) (by rw [hR]; decide) ?_
  refine z_aload_n O dX14_init_4 rfl 0 rfl ?_
  refine z_bipush (v := 8) O dX14_init_5 rfl ?_
  refine z_bipush (v := 23) O dX14_init_7 rfl ?_
  obtain ⟨hn, hs, h⟩ := h
  refine z_multi (N := 8) (K := 23) O zcl_X14_9 dX14_init_9 (by decide) (by decide) (by decide) (by decide) (by decide) (by decide) hn hs rfl rfl (fun q1 fq1 => ?_)
  generalize eM2 : znn M q1 8 23 = M2
  replace h := h q1 fq1 M2 eM2.symm
  obtain ⟨hk, h⟩ := h
  refine z_putrF O zp_X14_11_13 dX14_init_13 hk ?_
  generalize eM3 : zr M2 a0 0 (some q1) = M3
  replace h := h M3 eM3.symm
  refine z_aload_n O dX14_init_16 rfl 0 rfl ?_
  refine z_bipush (v := 8) O dX14_init_17 rfl ?_
  obtain ⟨hn, hs, h⟩ := h
  refine z_newi (N := 8) O zac_int dX14_init_19 (by decide) (by decide) (by decide) hn hs (fun q4 fq4 => ?_)
  generalize eM5 : zn M3 q4 100 8 = M5
  replace h := h q4 fq4 M5 eM5.symm
  obtain ⟨hk, h⟩ := h
  refine z_putrF O zp_X14_16_13 dX14_init_21 hk ?_
  generalize eM6 : zr M5 a0 1 (some q4) = M6
  replace h := h M6 eM6.symm
  refine z_aload_n O dX14_init_24 rfl 0 rfl ?_
  refine z_bipush (v := 8) O dX14_init_25 rfl ?_
  obtain ⟨hn, hs, h⟩ := h
  refine z_newi (N := 8) O zac_int dX14_init_27 (by decide) (by decide) (by decide) hn hs (fun q7 fq7 => ?_)
  generalize eM8 : zn M6 q7 100 8 = M8
  replace h := h q7 fq7 M8 eM8.symm
  obtain ⟨hk, h⟩ := h
  refine z_putrF O zp_X14_20_13 dX14_init_29 hk ?_
  generalize eM9 : zr M8 a0 2 (some q7) = M9
  replace h := h M9 eM9.symm
  refine z_aload_n O dX14_init_32 rfl 0 rfl ?_
  refine z_bipush (v := 8) O dX14_init_33 rfl ?_
  obtain ⟨hn, hs, h⟩ := h
  refine z_newi (N := 8) O zac_int dX14_init_35 (by decide) (by decide) (by decide) hn hs (fun q10 fq10 => ?_)
  generalize eM11 : zn M9 q10 100 8 = M11
  replace h := h q10 fq10 M11 eM11.symm
  obtain ⟨hk, h⟩ := h
  refine z_putrF O zp_X14_23_13 dX14_init_37 hk ?_
  generalize eM12 : zr M11 a0 3 (some q10) = M12
  replace h := h M12 eM12.symm
  refine z_aload_n O dX14_init_40 rfl 0 rfl ?_
  refine z_bipush (v := 8) O dX14_init_41 rfl ?_
  obtain ⟨hn, hs, h⟩ := h
  refine z_newi (N := 8) O zac_int dX14_init_43 (by decide) (by decide) (by decide) hn hs (fun q13 fq13 => ?_)
  generalize eM14 : zn M12 q13 100 8 = M14
  replace h := h q13 fq13 M14 eM14.symm
  obtain ⟨hk, h⟩ := h
  refine z_putrF O zp_X14_26_13 dX14_init_45 hk ?_
  generalize eM15 : zr M14 a0 4 (some q13) = M15
  replace h := h M15 eM15.symm
  exact z_vret O dX14_init_48 h
set_option maxRecDepth 100000 in
set_option maxHeartbeats 4000000 in
theorem b_X13_init_0 {G : zG} {X : zX} (O : zOK G X cX13_init 1 RX13 none "<init>") (hR : X.R = rm_X13_init) {M : zM} {n k : Nat} {a0 : Nat} (h : n + 1 ≤ X.R.cells ∧ k + 6 ≤ X.R.slots ∧ ∀ q1 : Nat, M.1 q1 = 0 → ∀ M2 : zM, M2 = zn M q1 14 0 → (n + 1) + 13 ≤ X.R.cells ∧ (k + 6) + 224 ≤ X.R.slots ∧ zC G yX14_init cX14_init 1 none rm_X14_init M2 [.ref q1] (fun M3 v => v = none ∧ M3.1 a0 = 13 ∧ ∀ M4 : zM, M4 = zr M3 a0 2 (some q1) → ((n + 1) + 13) + 1 ≤ X.R.cells ∧ ((k + 6) + 224) + 23 ≤ X.R.slots ∧ ∀ q5 : Nat, M4.1 q5 = 0 → ∀ M6 : zM, M6 = zn M4 q5 100 23 → M6.1 a0 = 13 ∧ ∀ M7 : zM, M7 = zr M6 a0 4 (some q5) → (((n + 1) + 13) + 1) + 1 ≤ X.R.cells ∧ (((k + 6) + 224) + 23) + 12 ≤ X.R.slots ∧ ∀ q8 : Nat, M7.1 q8 = 0 → ∀ M9 : zM, M9 = zn M7 q8 100 12 → M9.1 a0 = 13 ∧ ∀ M10 : zM, M10 = zr M9 a0 7 (some q8) → ((((n + 1) + 13) + 1) + 1) + 1 ≤ X.R.cells ∧ ((((k + 6) + 224) + 23) + 12) + 12 ≤ X.R.slots ∧ ∀ q11 : Nat, M10.1 q11 = 0 → ∀ M12 : zM, M12 = zn M10 q11 100 12 → M12.1 a0 = 13 ∧ ∀ M13 : zM, M13 = zr M12 a0 8 (some q11) → (((((n + 1) + 13) + 1) + 1) + 1) + 1 ≤ X.R.cells ∧ (((((k + 6) + 224) + 23) + 12) + 12) + 12 ≤ X.R.slots ∧ ∀ q14 : Nat, M13.1 q14 = 0 → ∀ M15 : zM, M15 = zn M13 q14 100 12 → M15.1 a0 = 13 ∧ ∀ M16 : zM, M16 = zr M15 a0 9 (some q14) → ((((((n + 1) + 13) + 1) + 1) + 1) + 1) + 1 ≤ X.R.cells ∧ ((((((k + 6) + 224) + 23) + 12) + 12) + 12) + 12 ≤ X.R.slots ∧ ∀ q17 : Nat, M16.1 q17 = 0 → ∀ M18 : zM, M18 = zn M16 q17 100 12 → M18.1 a0 = 13 ∧ ∀ M19 : zM, M19 = zr M18 a0 10 (some q17) → (((((((n + 1) + 13) + 1) + 1) + 1) + 1) + 1) + 1 ≤ X.R.cells ∧ (((((((k + 6) + 224) + 23) + 12) + 12) + 12) + 12) + 12 ≤ X.R.slots ∧ ∀ q20 : Nat, M19.1 q20 = 0 → ∀ M21 : zM, M21 = zn M19 q20 100 12 → M21.1 a0 = 13 ∧ ∀ M22 : zM, M22 = zr M21 a0 11 (some q20) → ((((((((n + 1) + 13) + 1) + 1) + 1) + 1) + 1) + 1) + 1 ≤ X.R.cells ∧ ((((((((k + 6) + 224) + 23) + 12) + 12) + 12) + 12) + 12) + 24 ≤ X.R.slots ∧ ∀ q23 : Nat, M22.1 q23 = 0 → ∀ M24 : zM, M24 = zn M22 q23 100 24 → M24.1 a0 = 13 ∧ ∀ M25 : zM, M25 = zr M24 a0 13 (some q23) → (((((((((n + 1) + 13) + 1) + 1) + 1) + 1) + 1) + 1) + 1) + 1 ≤ X.R.cells ∧ (((((((((k + 6) + 224) + 23) + 12) + 12) + 12) + 12) + 12) + 24) + 24 ≤ X.R.slots ∧ ∀ q26 : Nat, M25.1 q26 = 0 → ∀ M27 : zM, M27 = zn M25 q26 100 24 → M27.1 a0 = 13 ∧ ∀ M28 : zM, M28 = zr M27 a0 14 (some q26) → ((((((((((n + 1) + 13) + 1) + 1) + 1) + 1) + 1) + 1) + 1) + 1) + 1 ≤ X.R.cells ∧ ((((((((((k + 6) + 224) + 23) + 12) + 12) + 12) + 12) + 12) + 24) + 24) + 64 ≤ X.R.slots ∧ ∀ q29 : Nat, M28.1 q29 = 0 → ∀ M30 : zM, M30 = zn M28 q29 100 64 → M30.1 a0 = 13 ∧ ∀ M31 : zM, M31 = zr M30 a0 15 (some q29) → (((((((((((n + 1) + 13) + 1) + 1) + 1) + 1) + 1) + 1) + 1) + 1) + 1) + 1 ≤ X.R.cells ∧ (((((((((((k + 6) + 224) + 23) + 12) + 12) + 12) + 12) + 12) + 24) + 24) + 64) + 12 ≤ X.R.slots ∧ ∀ q32 : Nat, M31.1 q32 = 0 → ∀ M33 : zM, M33 = zn M31 q32 100 12 → M33.1 a0 = 13 ∧ ∀ M34 : zM, M34 = zr M33 a0 16 (some q32) → M34.1 a0 = 13 ∧ ∀ M35 : zM, M35 = zi M34 a0 25 (-1) → ((((((((((((n + 1) + 13) + 1) + 1) + 1) + 1) + 1) + 1) + 1) + 1) + 1) + 1) + 1 ≤ X.R.cells ∧ ((((((((((((k + 6) + 224) + 23) + 12) + 12) + 12) + 12) + 12) + 24) + 24) + 64) + 12) + 16 ≤ X.R.slots ∧ ∀ q36 : Nat, M35.1 q36 = 0 → ∀ M37 : zM, M37 = zn M35 q36 100 16 → M37.1 a0 = 13 ∧ ∀ M38 : zM, M38 = zr M37 a0 26 (some q36) → X.q M38 none)) : zW G X 1 M n k 0 [(0, .ref a0)] [] := by
  refine z_aload_n O dX13_init_0 rfl 0 rfl ?_
  refine z_obj O zob_X13_3 zob_1 zob_2 dX13_init_1 (by rw [hR]; decide) (by rw [hR]; decide) ?_
  refine z_aload_n O dX13_init_4 rfl 0 rfl ?_
  obtain ⟨hn, hs, h⟩ := h
  refine z_new O zn_X13_9 dX13_init_5 hn hs (fun q1 fq1 => ?_)
  generalize eM2 : zn M q1 14 0 = M2
  replace h := h q1 fq1 M2 eM2.symm
  refine z_dup O dX13_init_8 rfl ?_
  obtain ⟨hn, hs, h⟩ := h
  refine z_callINk (As := []) O zc_X13_11 h rfl (zRm_of hR (by decide) (by decide)) (Nat.le_of_ble_eq_true rfl) dX13_init_9 (mc := 13) (ms := 224) rfl rfl hn hs rfl (fun M3 v h => ?_)
  obtain ⟨rfl, h⟩ := h
  obtain ⟨hk, h⟩ := h
  refine z_putrF O zp_X13_12_12 dX13_init_12 hk ?_
  generalize eM4 : zr M3 a0 2 (some q1) = M4
  replace h := h M4 eM4.symm
  refine z_aload_n O dX13_init_15 rfl 0 rfl ?_
  refine z_bipush (v := 23) O dX13_init_16 rfl ?_
  obtain ⟨hn, hs, h⟩ := h
  refine z_newi (N := 23) O zac_int dX13_init_18 (by decide) (by decide) (by decide) hn hs (fun q5 fq5 => ?_)
  generalize eM6 : zn M4 q5 100 23 = M6
  replace h := h q5 fq5 M6 eM6.symm
  obtain ⟨hk, h⟩ := h
  refine z_putrF O zp_X13_18_12 dX13_init_20 hk ?_
  generalize eM7 : zr M6 a0 4 (some q5) = M7
  replace h := h M7 eM7.symm
  refine z_aload_n O dX13_init_23 rfl 0 rfl ?_
  refine z_bipush (v := 12) O dX13_init_24 rfl ?_
  obtain ⟨hn, hs, h⟩ := h
  refine z_newi (N := 12) O zac_int dX13_init_26 (by decide) (by decide) (by decide) hn hs (fun q8 fq8 => ?_)
  generalize eM9 : zn M7 q8 100 12 = M9
  replace h := h q8 fq8 M9 eM9.symm
  obtain ⟨hk, h⟩ := h
  refine z_putrF O zp_X13_22_12 dX13_init_28 hk ?_
  generalize eM10 : zr M9 a0 7 (some q8) = M10
  replace h := h M10 eM10.symm
  refine z_aload_n O dX13_init_31 rfl 0 rfl ?_
  refine z_bipush (v := 12) O dX13_init_32 rfl ?_
  obtain ⟨hn, hs, h⟩ := h
  refine z_newi (N := 12) O zac_int dX13_init_34 (by decide) (by decide) (by decide) hn hs (fun q11 fq11 => ?_)
  generalize eM12 : zn M10 q11 100 12 = M12
  replace h := h q11 fq11 M12 eM12.symm
  obtain ⟨hk, h⟩ := h
  refine z_putrF O zp_X13_25_12 dX13_init_36 hk ?_
  generalize eM13 : zr M12 a0 8 (some q11) = M13
  replace h := h M13 eM13.symm
  refine z_aload_n O dX13_init_39 rfl 0 rfl ?_
  refine z_bipush (v := 12) O dX13_init_40 rfl ?_
  obtain ⟨hn, hs, h⟩ := h
  refine z_newi (N := 12) O zac_int dX13_init_42 (by decide) (by decide) (by decide) hn hs (fun q14 fq14 => ?_)
  generalize eM15 : zn M13 q14 100 12 = M15
  replace h := h q14 fq14 M15 eM15.symm
  obtain ⟨hk, h⟩ := h
  refine z_putrF O zp_X13_28_12 dX13_init_44 hk ?_
  generalize eM16 : zr M15 a0 9 (some q14) = M16
  replace h := h M16 eM16.symm
  refine z_aload_n O dX13_init_47 rfl 0 rfl ?_
  refine z_bipush (v := 12) O dX13_init_48 rfl ?_
  obtain ⟨hn, hs, h⟩ := h
  refine z_newi (N := 12) O zac_int dX13_init_50 (by decide) (by decide) (by decide) hn hs (fun q17 fq17 => ?_)
  generalize eM18 : zn M16 q17 100 12 = M18
  replace h := h q17 fq17 M18 eM18.symm
  obtain ⟨hk, h⟩ := h
  refine z_putrF O zp_X13_31_12 dX13_init_52 hk ?_
  generalize eM19 : zr M18 a0 10 (some q17) = M19
  replace h := h M19 eM19.symm
  refine z_aload_n O dX13_init_55 rfl 0 rfl ?_
  refine z_bipush (v := 12) O dX13_init_56 rfl ?_
  obtain ⟨hn, hs, h⟩ := h
  refine z_newi (N := 12) O zac_int dX13_init_58 (by decide) (by decide) (by decide) hn hs (fun q20 fq20 => ?_)
  generalize eM21 : zn M19 q20 100 12 = M21
  replace h := h q20 fq20 M21 eM21.symm
  obtain ⟨hk, h⟩ := h
  refine z_putrF O zp_X13_34_12 dX13_init_60 hk ?_
  generalize eM22 : zr M21 a0 11 (some q20) = M22
  replace h := h M22 eM22.symm
  refine z_aload_n O dX13_init_63 rfl 0 rfl ?_
  refine z_bipush (v := 24) O dX13_init_64 rfl ?_
  obtain ⟨hn, hs, h⟩ := h
  refine z_newi (N := 24) O zac_int dX13_init_66 (by decide) (by decide) (by decide) hn hs (fun q23 fq23 => ?_)
  generalize eM24 : zn M22 q23 100 24 = M24
  replace h := h q23 fq23 M24 eM24.symm
  obtain ⟨hk, h⟩ := h
  refine z_putrF O zp_X13_37_12 dX13_init_68 hk ?_
  generalize eM25 : zr M24 a0 13 (some q23) = M25
  replace h := h M25 eM25.symm
  refine z_aload_n O dX13_init_71 rfl 0 rfl ?_
  refine z_bipush (v := 24) O dX13_init_72 rfl ?_
  obtain ⟨hn, hs, h⟩ := h
  refine z_newi (N := 24) O zac_int dX13_init_74 (by decide) (by decide) (by decide) hn hs (fun q26 fq26 => ?_)
  generalize eM27 : zn M25 q26 100 24 = M27
  replace h := h q26 fq26 M27 eM27.symm
  obtain ⟨hk, h⟩ := h
  refine z_putrF O zp_X13_40_12 dX13_init_76 hk ?_
  generalize eM28 : zr M27 a0 14 (some q26) = M28
  replace h := h M28 eM28.symm
  refine z_aload_n O dX13_init_79 rfl 0 rfl ?_
  refine z_bipush (v := 64) O dX13_init_80 rfl ?_
  obtain ⟨hn, hs, h⟩ := h
  refine z_newi (N := 64) O zac_int dX13_init_82 (by decide) (by decide) (by decide) hn hs (fun q29 fq29 => ?_)
  generalize eM30 : zn M28 q29 100 64 = M30
  replace h := h q29 fq29 M30 eM30.symm
  obtain ⟨hk, h⟩ := h
  refine z_putrF O zp_X13_43_12 dX13_init_84 hk ?_
  generalize eM31 : zr M30 a0 15 (some q29) = M31
  replace h := h M31 eM31.symm
  refine z_aload_n O dX13_init_87 rfl 0 rfl ?_
  refine z_bipush (v := 12) O dX13_init_88 rfl ?_
  obtain ⟨hn, hs, h⟩ := h
  refine z_newi (N := 12) O zac_int dX13_init_90 (by decide) (by decide) (by decide) hn hs (fun q32 fq32 => ?_)
  generalize eM33 : zn M31 q32 100 12 = M33
  replace h := h q32 fq32 M33 eM33.symm
  obtain ⟨hk, h⟩ := h
  refine z_putrF O zp_X13_46_12 dX13_init_92 hk ?_
  generalize eM34 : zr M33 a0 16 (some q32) = M34
  replace h := h M34 eM34.symm
  refine z_aload_n O dX13_init_95 rfl 0 rfl ?_
  refine z_iconst (v := (-1)) O dX13_init_96 rfl ?_
  obtain ⟨hk, h⟩ := h
  refine z_puti O zp_X13_49_12 dX13_init_97 hk ?_
  generalize eM35 : zi M34 a0 25 (-1) = M35
  replace h := h M35 eM35.symm
  refine z_aload_n O dX13_init_100 rfl 0 rfl ?_
  refine z_bipush (v := 16) O dX13_init_101 rfl ?_
  obtain ⟨hn, hs, h⟩ := h
  refine z_newi (N := 16) O zac_int dX13_init_103 (by decide) (by decide) (by decide) hn hs (fun q36 fq36 => ?_)
  generalize eM37 : zn M35 q36 100 16 = M37
  replace h := h q36 fq36 M37 eM37.symm
  obtain ⟨hk, h⟩ := h
  refine z_putrF O zp_X13_53_12 dX13_init_105 hk ?_
  generalize eM38 : zr M37 a0 26 (some q36) = M38
  replace h := h M38 eM38.symm
  exact z_vret O dX13_init_108 h
set_option maxRecDepth 100000 in
set_option maxHeartbeats 4000000 in
theorem b_X12_init_0 {G : zG} {X : zX} (O : zOK G X cX12_init 1 RX12 none "<init>") (hR : X.R = rm_X12_init) {M : zM} {n k : Nat} {a0 : Nat} (h : n + 1 ≤ X.R.cells ∧ k + 2 ≤ X.R.slots ∧ ∀ q1 : Nat, M.1 q1 = 0 → ∀ M2 : zM, M2 = zn M q1 100 2 → M2.1 a0 = 12 ∧ ∀ M3 : zM, M3 = zr M2 a0 0 (some q1) → (n + 1) + 1 ≤ X.R.cells ∧ (k + 2) + 64 ≤ X.R.slots ∧ ∀ q4 : Nat, M3.1 q4 = 0 → ∀ M5 : zM, M5 = zn M3 q4 100 64 → M5.1 a0 = 12 ∧ ∀ M6 : zM, M6 = zr M5 a0 2 (some q4) → ((n + 1) + 1) + 1 ≤ X.R.cells ∧ ((k + 2) + 64) + 2 ≤ X.R.slots ∧ ∀ q7 : Nat, M6.1 q7 = 0 → ∀ M8 : zM, M8 = zn M6 q7 109 2 → (((n + 1) + 1) + 1) + 1 ≤ X.R.cells ∧ (((k + 2) + 64) + 2) + 6 ≤ X.R.slots ∧ ∀ q9 : Nat, M8.1 q9 = 0 → ∀ M10 : zM, M10 = zn M8 q9 14 0 → ((((n + 1) + 1) + 1) + 1) + 13 ≤ X.R.cells ∧ ((((k + 2) + 64) + 2) + 6) + 224 ≤ X.R.slots ∧ zC G yX14_init cX14_init 1 none rm_X14_init M10 [.ref q9] (fun M11 v => v = none ∧ M11.1 q7 = 109 ∧ M11.1 q9 = 14 ∧ vp_in (0 : Int32) (M11.2.1 q7) ∧ ∀ M12 : zM, M12 = zr M11 q7 ((0 : Int32).toNatClampNeg) (some q9) → (((((n + 1) + 1) + 1) + 1) + 13) + 1 ≤ X.R.cells ∧ (((((k + 2) + 64) + 2) + 6) + 224) + 6 ≤ X.R.slots ∧ ∀ q13 : Nat, M12.1 q13 = 0 → ∀ M14 : zM, M14 = zn M12 q13 14 0 → ((((((n + 1) + 1) + 1) + 1) + 13) + 1) + 13 ≤ X.R.cells ∧ ((((((k + 2) + 64) + 2) + 6) + 224) + 6) + 224 ≤ X.R.slots ∧ zC G yX14_init cX14_init 1 none rm_X14_init M14 [.ref q13] (fun M15 v => v = none ∧ M15.1 q7 = 109 ∧ M15.1 q13 = 14 ∧ vp_in (1 : Int32) (M15.2.1 q7) ∧ ∀ M16 : zM, M16 = zr M15 q7 ((1 : Int32).toNatClampNeg) (some q13) → M16.1 a0 = 12 ∧ ∀ M17 : zM, M17 = zr M16 a0 4 (some q7) → (((((((n + 1) + 1) + 1) + 1) + 13) + 1) + 13) + 3 ≤ X.R.cells ∧ (((((((k + 2) + 64) + 2) + 6) + 224) + 6) + 224) + 48 ≤ X.R.slots ∧ ∀ q18 : Nat, (∀ j, j ≤ 2 → M17.1 (q18 + j) = 0) → ∀ M19 : zM, M19 = znn M17 q18 2 23 → M19.1 a0 = 12 ∧ ∀ M20 : zM, M20 = zr M19 a0 5 (some q18) → ((((((((n + 1) + 1) + 1) + 1) + 13) + 1) + 13) + 3) + 1 ≤ X.R.cells ∧ ((((((((k + 2) + 64) + 2) + 6) + 224) + 6) + 224) + 48) + 2 ≤ X.R.slots ∧ ∀ q21 : Nat, M20.1 q21 = 0 → ∀ M22 : zM, M22 = zn M20 q21 100 2 → M22.1 a0 = 12 ∧ ∀ M23 : zM, M23 = zr M22 a0 6 (some q21) → X.q M23 none))) : zW G X 1 M n k 0 [(0, .ref a0)] [] := by
  refine z_aload_n O dX12_init_0 rfl 0 rfl ?_
  refine z_obj O zob_X12_3 zob_1 zob_2 dX12_init_1 (by rw [hR]; decide) (by rw [hR]; decide) ?_
  refine z_aload_n O dX12_init_4 rfl 0 rfl ?_
  refine z_iconst (v := 2) O dX12_init_5 rfl ?_
  obtain ⟨hn, hs, h⟩ := h
  refine z_newi (N := 2) O zac_int dX12_init_6 (by decide) (by decide) (by decide) hn hs (fun q1 fq1 => ?_)
  generalize eM2 : zn M q1 100 2 = M2
  replace h := h q1 fq1 M2 eM2.symm
  obtain ⟨hk, h⟩ := h
  refine z_putrF O zp_X12_9_11 dX12_init_8 hk ?_
  generalize eM3 : zr M2 a0 0 (some q1) = M3
  replace h := h M3 eM3.symm
  refine z_aload_n O dX12_init_11 rfl 0 rfl ?_
  refine z_bipush (v := 64) O dX12_init_12 rfl ?_
  obtain ⟨hn, hs, h⟩ := h
  refine z_newi (N := 64) O zac_int dX12_init_14 (by decide) (by decide) (by decide) hn hs (fun q4 fq4 => ?_)
  generalize eM5 : zn M3 q4 100 64 = M5
  replace h := h q4 fq4 M5 eM5.symm
  obtain ⟨hk, h⟩ := h
  refine z_putrF O zp_X12_15_11 dX12_init_16 hk ?_
  generalize eM6 : zr M5 a0 2 (some q4) = M6
  replace h := h M6 eM6.symm
  refine z_aload_n O dX12_init_19 rfl 0 rfl ?_
  refine z_iconst (v := 2) O dX12_init_20 rfl ?_
  obtain ⟨hn, hs, h⟩ := h
  refine z_newr (t := 7) (N := 2) O rfl zcl_X12_18 (by decide) dX12_init_21 (by decide) (by decide) (by decide) hn hs (fun q7 fq7 => ?_)
  generalize eM8 : zn M6 q7 109 2 = M8
  replace h := h q7 fq7 M8 eM8.symm
  refine z_dup O dX12_init_24 rfl ?_
  refine z_iconst (v := 0) O dX12_init_25 rfl ?_
  obtain ⟨hn, hs, h⟩ := h
  refine z_new O zn_X12_18 dX12_init_26 hn hs (fun q9 fq9 => ?_)
  generalize eM10 : zn M8 q9 14 0 = M10
  replace h := h q9 fq9 M10 eM10.symm
  refine z_dup O dX12_init_29 rfl ?_
  obtain ⟨hn, hs, h⟩ := h
  refine z_callINk (As := []) O zc_X12_20 h rfl (zRm_of hR (by decide) (by decide)) (Nat.le_of_ble_eq_true rfl) dX12_init_30 (mc := 13) (ms := 224) rfl rfl hn hs rfl (fun M11 v h => ?_)
  obtain ⟨rfl, h⟩ := h
  obtain ⟨hk, hkv, hi, h⟩ := h
  refine z_ast (t := 7) (ci := 13) (C := RX14) (T := TX14) (N := 6) O rfl rfl (by decide) dX12_init_33 hk hkv hi ?_
  generalize eM12 : zr M11 q7 ((0 : Int32).toNatClampNeg) (some q9) = M12
  replace h := h M12 eM12.symm
  refine z_dup O dX12_init_34 rfl ?_
  refine z_iconst (v := 1) O dX12_init_35 rfl ?_
  obtain ⟨hn, hs, h⟩ := h
  refine z_new O zn_X12_18 dX12_init_36 hn hs (fun q13 fq13 => ?_)
  generalize eM14 : zn M12 q13 14 0 = M14
  replace h := h q13 fq13 M14 eM14.symm
  refine z_dup O dX12_init_39 rfl ?_
  obtain ⟨hn, hs, h⟩ := h
  refine z_callINk (As := []) O zc_X12_20 h rfl (zRm_of hR (by decide) (by decide)) (Nat.le_of_ble_eq_true rfl) dX12_init_40 (mc := 13) (ms := 224) rfl rfl hn hs rfl (fun M15 v h => ?_)
  obtain ⟨rfl, h⟩ := h
  obtain ⟨hk, hkv, hi, h⟩ := h
  refine z_ast (t := 7) (ci := 13) (C := RX14) (T := TX14) (N := 6) O rfl rfl (by decide) dX12_init_43 hk hkv hi ?_
  generalize eM16 : zr M15 q7 ((1 : Int32).toNatClampNeg) (some q13) = M16
  replace h := h M16 eM16.symm
  obtain ⟨hk, h⟩ := h
  refine z_putrF O zp_X12_21_11 dX12_init_44 hk ?_
  generalize eM17 : zr M16 a0 4 (some q7) = M17
  replace h := h M17 eM17.symm
  refine z_aload_n O dX12_init_47 rfl 0 rfl ?_
  refine z_iconst (v := 2) O dX12_init_48 rfl ?_
  refine z_bipush (v := 23) O dX12_init_49 rfl ?_
  obtain ⟨hn, hs, h⟩ := h
  refine z_multi (N := 2) (K := 23) O zcl_X12_25 dX12_init_51 (by decide) (by decide) (by decide) (by decide) (by decide) (by decide) hn hs rfl rfl (fun q18 fq18 => ?_)
  generalize eM19 : znn M17 q18 2 23 = M19
  replace h := h q18 fq18 M19 eM19.symm
  obtain ⟨hk, h⟩ := h
  refine z_putrF O zp_X12_27_11 dX12_init_55 hk ?_
  generalize eM20 : zr M19 a0 5 (some q18) = M20
  replace h := h M20 eM20.symm
  refine z_aload_n O dX12_init_58 rfl 0 rfl ?_
  refine z_iconst (v := 2) O dX12_init_59 rfl ?_
  obtain ⟨hn, hs, h⟩ := h
  refine z_newi (N := 2) O zac_int dX12_init_60 (by decide) (by decide) (by decide) hn hs (fun q21 fq21 => ?_)
  generalize eM22 : zn M20 q21 100 2 = M22
  replace h := h q21 fq21 M22 eM22.symm
  obtain ⟨hk, h⟩ := h
  refine z_putrF O zp_X12_30_11 dX12_init_62 hk ?_
  generalize eM23 : zr M22 a0 6 (some q21) = M23
  replace h := h M23 eM23.symm
  exact z_vret O dX12_init_65 h
set_option maxRecDepth 100000 in
set_option maxHeartbeats 4000000 in
theorem b_X15_init_0 {G : zG} {X : zX} (O : zOK G X cX15_init 2 RX15 none "<init>") (hR : X.R = rm_X15_init) {M : zM} {n k : Nat} {a0 : Nat} (h : n + 1 ≤ X.R.cells ∧ k + 6 ≤ X.R.slots ∧ ∀ q1 : Nat, M.1 q1 = 0 → ∀ M2 : zM, M2 = zn M q1 100 6 → M2.1 a0 = 15 ∧ ∀ M3 : zM, M3 = zr M2 a0 5 (some q1) → (n + 1) + 1 ≤ X.R.cells ∧ (k + 6) + 6 ≤ X.R.slots ∧ ∀ q4 : Nat, M3.1 q4 = 0 → ∀ M5 : zM, M5 = zn M3 q4 109 6 → M5.1 a0 = 15 ∧ ∀ M6 : zM, M6 = zr M5 a0 6 (some q4) → ((n + 1) + 1) + 1 ≤ X.R.cells ∧ ((k + 6) + 6) + 24 ≤ X.R.slots ∧ ∀ q7 : Nat, M6.1 q7 = 0 → ∀ M8 : zM, M8 = zn M6 q7 110 24 → M8.1 a0 = 15 ∧ ∀ M9 : zM, M9 = zr M8 a0 8 (some q7) → (((n + 1) + 1) + 1) + 1 ≤ X.R.cells ∧ (((k + 6) + 6) + 24) + 5 ≤ X.R.slots ∧ ∀ q10 : Nat, M9.1 q10 = 0 → ∀ M11 : zM, M11 = zn M9 q10 111 5 → M11.1 a0 = 15 ∧ ∀ M12 : zM, M12 = zr M11 a0 10 (some q10) → ((((n + 1) + 1) + 1) + 1) + 1 ≤ X.R.cells ∧ ((((k + 6) + 6) + 24) + 5) + 23 ≤ X.R.slots ∧ ∀ q13 : Nat, M12.1 q13 = 0 → ∀ M14 : zM, M14 = zn M12 q13 100 23 → M14.1 a0 = 15 ∧ ∀ M15 : zM, M15 = zr M14 a0 11 (some q13) → (((((n + 1) + 1) + 1) + 1) + 1) + 1 ≤ X.R.cells ∧ (((((k + 6) + 6) + 24) + 5) + 23) + 1 ≤ X.R.slots ∧ ∀ q16 : Nat, M15.1 q16 = 0 → ∀ M17 : zM, M17 = zn M15 q16 100 1 → M17.1 a0 = 15 ∧ ∀ M18 : zM, M18 = zr M17 a0 12 (some q16) → ((((((n + 1) + 1) + 1) + 1) + 1) + 1) + 1 ≤ X.R.cells ∧ ((((((k + 6) + 6) + 24) + 5) + 23) + 1) + 8 ≤ X.R.slots ∧ ∀ q19 : Nat, M18.1 q19 = 0 → ∀ M20 : zM, M20 = zn M18 q19 100 8 → M20.1 a0 = 15 ∧ ∀ M21 : zM, M21 = zr M20 a0 13 (some q19) → (((((((n + 1) + 1) + 1) + 1) + 1) + 1) + 1) + 1 ≤ X.R.cells ∧ (((((((k + 6) + 6) + 24) + 5) + 23) + 1) + 8) + 16 ≤ X.R.slots ∧ ∀ q22 : Nat, M21.1 q22 = 0 → ∀ M23 : zM, M23 = zn M21 q22 100 16 → M23.1 a0 = 15 ∧ ∀ M24 : zM, M24 = zr M23 a0 14 (some q22) → M24.1 a0 = 15 ∧ ∀ M25 : zM, M25 = zi M24 a0 20 (-1) → ((((((((n + 1) + 1) + 1) + 1) + 1) + 1) + 1) + 1) + 1 ≤ X.R.cells ∧ ((((((((k + 6) + 6) + 24) + 5) + 23) + 1) + 8) + 16) + 23 ≤ X.R.slots ∧ ∀ q26 : Nat, M25.1 q26 = 0 → ∀ M27 : zM, M27 = zn M25 q26 100 23 → M27.1 a0 = 15 ∧ ∀ M28 : zM, M28 = zr M27 a0 21 (some q26) → (((((((((n + 1) + 1) + 1) + 1) + 1) + 1) + 1) + 1) + 1) + 1 ≤ X.R.cells ∧ (((((((((k + 6) + 6) + 24) + 5) + 23) + 1) + 8) + 16) + 23) + 64 ≤ X.R.slots ∧ ∀ q29 : Nat, M28.1 q29 = 0 → ∀ M30 : zM, M30 = zn M28 q29 100 64 → M30.1 a0 = 15 ∧ ∀ M31 : zM, M31 = zr M30 a0 23 (some q29) → ((((((((((n + 1) + 1) + 1) + 1) + 1) + 1) + 1) + 1) + 1) + 1) + 1 ≤ X.R.cells ∧ ((((((((((k + 6) + 6) + 24) + 5) + 23) + 1) + 8) + 16) + 23) + 64) + 64 ≤ X.R.slots ∧ ∀ q32 : Nat, M31.1 q32 = 0 → ∀ M33 : zM, M33 = zn M31 q32 100 64 → M33.1 a0 = 15 ∧ ∀ M34 : zM, M34 = zr M33 a0 24 (some q32) → (((((((((((n + 1) + 1) + 1) + 1) + 1) + 1) + 1) + 1) + 1) + 1) + 1) + 1 ≤ X.R.cells ∧ (((((((((((k + 6) + 6) + 24) + 5) + 23) + 1) + 8) + 16) + 23) + 64) + 64) + 64 ≤ X.R.slots ∧ ∀ q35 : Nat, M34.1 q35 = 0 → ∀ M36 : zM, M36 = zn M34 q35 100 64 → M36.1 a0 = 15 ∧ ∀ M37 : zM, M37 = zr M36 a0 25 (some q35) → ((((((((((((n + 1) + 1) + 1) + 1) + 1) + 1) + 1) + 1) + 1) + 1) + 1) + 1) + 1 ≤ X.R.cells ∧ ((((((((((((k + 6) + 6) + 24) + 5) + 23) + 1) + 8) + 16) + 23) + 64) + 64) + 64) + 40 ≤ X.R.slots ∧ ∀ q38 : Nat, M37.1 q38 = 0 → ∀ M39 : zM, M39 = zn M37 q38 109 40 → M39.1 a0 = 15 ∧ ∀ M40 : zM, M40 = zr M39 a0 27 (some q38) → (((((((((((((n + 1) + 1) + 1) + 1) + 1) + 1) + 1) + 1) + 1) + 1) + 1) + 1) + 1) + 1 ≤ X.R.cells ∧ (((((((((((((k + 6) + 6) + 24) + 5) + 23) + 1) + 8) + 16) + 23) + 64) + 64) + 64) + 40) + 40 ≤ X.R.slots ∧ ∀ q41 : Nat, M40.1 q41 = 0 → ∀ M42 : zM, M42 = zn M40 q41 100 40 → M42.1 a0 = 15 ∧ ∀ M43 : zM, M43 = zr M42 a0 28 (some q41) → ((((((((((((((n + 1) + 1) + 1) + 1) + 1) + 1) + 1) + 1) + 1) + 1) + 1) + 1) + 1) + 1) + 1 ≤ X.R.cells ∧ ((((((((((((((k + 6) + 6) + 24) + 5) + 23) + 1) + 8) + 16) + 23) + 64) + 64) + 64) + 40) + 40) + 40 ≤ X.R.slots ∧ ∀ q44 : Nat, M43.1 q44 = 0 → ∀ M45 : zM, M45 = zn M43 q44 101 40 → M45.1 a0 = 15 ∧ ∀ M46 : zM, M46 = zr M45 a0 29 (some q44) → (((((((((((((((n + 1) + 1) + 1) + 1) + 1) + 1) + 1) + 1) + 1) + 1) + 1) + 1) + 1) + 1) + 1) + 1 ≤ X.R.cells ∧ (((((((((((((((k + 6) + 6) + 24) + 5) + 23) + 1) + 8) + 16) + 23) + 64) + 64) + 64) + 40) + 40) + 40) + 23 ≤ X.R.slots ∧ ∀ q47 : Nat, M46.1 q47 = 0 → ∀ M48 : zM, M48 = zn M46 q47 100 23 → M48.1 a0 = 15 ∧ ∀ M49 : zM, M49 = zr M48 a0 31 (some q47) → ((((((((((((((((n + 1) + 1) + 1) + 1) + 1) + 1) + 1) + 1) + 1) + 1) + 1) + 1) + 1) + 1) + 1) + 1) + 1 ≤ X.R.cells ∧ ((((((((((((((((k + 6) + 6) + 24) + 5) + 23) + 1) + 8) + 16) + 23) + 64) + 64) + 64) + 40) + 40) + 40) + 23) + 16 ≤ X.R.slots ∧ ∀ q50 : Nat, M49.1 q50 = 0 → ∀ M51 : zM, M51 = zn M49 q50 100 16 → M51.1 a0 = 15 ∧ ∀ M52 : zM, M52 = zr M51 a0 33 (some q50) → (((((((((((((((((n + 1) + 1) + 1) + 1) + 1) + 1) + 1) + 1) + 1) + 1) + 1) + 1) + 1) + 1) + 1) + 1) + 1) + 1 ≤ X.R.cells ∧ (((((((((((((((((k + 6) + 6) + 24) + 5) + 23) + 1) + 8) + 16) + 23) + 64) + 64) + 64) + 40) + 40) + 40) + 23) + 16) + 23 ≤ X.R.slots ∧ ∀ q53 : Nat, M52.1 q53 = 0 → ∀ M54 : zM, M54 = zn M52 q53 100 23 → M54.1 a0 = 15 ∧ ∀ M55 : zM, M55 = zr M54 a0 34 (some q53) → ((((((((((((((((((n + 1) + 1) + 1) + 1) + 1) + 1) + 1) + 1) + 1) + 1) + 1) + 1) + 1) + 1) + 1) + 1) + 1) + 1) + 1 ≤ X.R.cells ∧ ((((((((((((((((((k + 6) + 6) + 24) + 5) + 23) + 1) + 8) + 16) + 23) + 64) + 64) + 64) + 40) + 40) + 40) + 23) + 16) + 23) + 6 ≤ X.R.slots ∧ ∀ q56 : Nat, M55.1 q56 = 0 → ∀ M57 : zM, M57 = zn M55 q56 101 6 → M57.1 a0 = 15 ∧ ∀ M58 : zM, M58 = zr M57 a0 35 (some q56) → (((((((((((((((((((n + 1) + 1) + 1) + 1) + 1) + 1) + 1) + 1) + 1) + 1) + 1) + 1) + 1) + 1) + 1) + 1) + 1) + 1) + 1) + 1 ≤ X.R.cells ∧ (((((((((((((((((((k + 6) + 6) + 24) + 5) + 23) + 1) + 8) + 16) + 23) + 64) + 64) + 64) + 40) + 40) + 40) + 23) + 16) + 23) + 6) + 4 ≤ X.R.slots ∧ ∀ q59 : Nat, M58.1 q59 = 0 → ∀ M60 : zM, M60 = zn M58 q59 101 4 → M60.1 a0 = 15 ∧ ∀ M61 : zM, M61 = zr M60 a0 36 (some q59) → ((((((((((((((((((((n + 1) + 1) + 1) + 1) + 1) + 1) + 1) + 1) + 1) + 1) + 1) + 1) + 1) + 1) + 1) + 1) + 1) + 1) + 1) + 1) + 1 ≤ X.R.cells ∧ ((((((((((((((((((((k + 6) + 6) + 24) + 5) + 23) + 1) + 8) + 16) + 23) + 64) + 64) + 64) + 40) + 40) + 40) + 23) + 16) + 23) + 6) + 4) + 16 ≤ X.R.slots ∧ ∀ q62 : Nat, M61.1 q62 = 0 → ∀ M63 : zM, M63 = zn M61 q62 100 16 → M63.1 a0 = 15 ∧ ∀ M64 : zM, M64 = zr M63 a0 37 (some q62) → (((((((((((((((((((((n + 1) + 1) + 1) + 1) + 1) + 1) + 1) + 1) + 1) + 1) + 1) + 1) + 1) + 1) + 1) + 1) + 1) + 1) + 1) + 1) + 1) + 1 ≤ X.R.cells ∧ (((((((((((((((((((((k + 6) + 6) + 24) + 5) + 23) + 1) + 8) + 16) + 23) + 64) + 64) + 64) + 40) + 40) + 40) + 23) + 16) + 23) + 6) + 4) + 16) + 60 ≤ X.R.slots ∧ ∀ q65 : Nat, M64.1 q65 = 0 → ∀ M66 : zM, M66 = zn M64 q65 100 60 → M66.1 a0 = 15 ∧ ∀ M67 : zM, M67 = zr M66 a0 38 (some q65) → zW G X 2 M67 ((((((((((((((((((((((n + 1) + 1) + 1) + 1) + 1) + 1) + 1) + 1) + 1) + 1) + 1) + 1) + 1) + 1) + 1) + 1) + 1) + 1) + 1) + 1) + 1) + 1) ((((((((((((((((((((((k + 6) + 6) + 24) + 5) + 23) + 1) + 8) + 16) + 23) + 64) + 64) + 64) + 40) + 40) + 40) + 23) + 16) + 23) + 6) + 4) + 16) + 60) 188 [(0, .ref a0), (1, .int 0)] []) : zW G X 2 M n k 0 [(0, .ref a0)] [] := by
  refine z_aload_n O dX15_init_0 rfl 0 rfl ?_
  refine z_obj O zob_X15_1 zob_1 zob_2 dX15_init_1 (by rw [hR]; decide) (by rw [hR]; decide) ?_
  refine z_aload_n O dX15_init_4 rfl 0 rfl ?_
  refine z_bipush (v := 6) O dX15_init_5 rfl ?_
  obtain ⟨hn, hs, h⟩ := h
  refine z_newi (N := 6) O zac_int dX15_init_7 (by decide) (by decide) (by decide) hn hs (fun q1 fq1 => ?_)
  generalize eM2 : zn M q1 100 6 = M2
  replace h := h q1 fq1 M2 eM2.symm
  obtain ⟨hk, h⟩ := h
  refine z_putrF O zp_X15_7_14 dX15_init_9 hk ?_
  generalize eM3 : zr M2 a0 5 (some q1) = M3
  replace h := h M3 eM3.symm
  refine z_aload_n O dX15_init_12 rfl 0 rfl ?_
  refine z_bipush (v := 6) O dX15_init_13 rfl ?_
  obtain ⟨hn, hs, h⟩ := h
  refine z_newr (t := 7) (N := 6) O rfl zcl_X15_13 (by decide) dX15_init_15 (by decide) (by decide) (by decide) hn hs (fun q4 fq4 => ?_)
  generalize eM5 : zn M3 q4 109 6 = M5
  replace h := h q4 fq4 M5 eM5.symm
  obtain ⟨hk, h⟩ := h
  refine z_putrF O zp_X15_15_14 dX15_init_18 hk ?_
  generalize eM6 : zr M5 a0 6 (some q4) = M6
  replace h := h M6 eM6.symm
  refine z_aload_n O dX15_init_21 rfl 0 rfl ?_
  refine z_bipush (v := 24) O dX15_init_22 rfl ?_
  obtain ⟨hn, hs, h⟩ := h
  refine z_newr (t := 8) (N := 24) O rfl zcl_X15_19 (by decide) dX15_init_24 (by decide) (by decide) (by decide) hn hs (fun q7 fq7 => ?_)
  generalize eM8 : zn M6 q7 110 24 = M8
  replace h := h q7 fq7 M8 eM8.symm
  obtain ⟨hk, h⟩ := h
  refine z_putrF O zp_X15_21_14 dX15_init_27 hk ?_
  generalize eM9 : zr M8 a0 8 (some q7) = M9
  replace h := h M9 eM9.symm
  refine z_aload_n O dX15_init_30 rfl 0 rfl ?_
  refine z_iconst (v := 5) O dX15_init_31 rfl ?_
  obtain ⟨hn, hs, h⟩ := h
  refine z_newr (t := 9) (N := 5) O rfl zcl_X15_25 (by decide) dX15_init_32 (by decide) (by decide) (by decide) hn hs (fun q10 fq10 => ?_)
  generalize eM11 : zn M9 q10 111 5 = M11
  replace h := h q10 fq10 M11 eM11.symm
  obtain ⟨hk, h⟩ := h
  refine z_putrF O zp_X15_27_14 dX15_init_35 hk ?_
  generalize eM12 : zr M11 a0 10 (some q10) = M12
  replace h := h M12 eM12.symm
  refine z_aload_n O dX15_init_38 rfl 0 rfl ?_
  refine z_bipush (v := 23) O dX15_init_39 rfl ?_
  obtain ⟨hn, hs, h⟩ := h
  refine z_newi (N := 23) O zac_int dX15_init_41 (by decide) (by decide) (by decide) hn hs (fun q13 fq13 => ?_)
  generalize eM14 : zn M12 q13 100 23 = M14
  replace h := h q13 fq13 M14 eM14.symm
  obtain ⟨hk, h⟩ := h
  refine z_putrF O zp_X15_31_14 dX15_init_43 hk ?_
  generalize eM15 : zr M14 a0 11 (some q13) = M15
  replace h := h M15 eM15.symm
  refine z_aload_n O dX15_init_46 rfl 0 rfl ?_
  refine z_iconst (v := 1) O dX15_init_47 rfl ?_
  obtain ⟨hn, hs, h⟩ := h
  refine z_newi (N := 1) O zac_int dX15_init_48 (by decide) (by decide) (by decide) hn hs (fun q16 fq16 => ?_)
  generalize eM17 : zn M15 q16 100 1 = M17
  replace h := h q16 fq16 M17 eM17.symm
  obtain ⟨hk, h⟩ := h
  refine z_putrF O zp_X15_34_14 dX15_init_50 hk ?_
  generalize eM18 : zr M17 a0 12 (some q16) = M18
  replace h := h M18 eM18.symm
  refine z_aload_n O dX15_init_53 rfl 0 rfl ?_
  refine z_bipush (v := 8) O dX15_init_54 rfl ?_
  obtain ⟨hn, hs, h⟩ := h
  refine z_newi (N := 8) O zac_int dX15_init_56 (by decide) (by decide) (by decide) hn hs (fun q19 fq19 => ?_)
  generalize eM20 : zn M18 q19 100 8 = M20
  replace h := h q19 fq19 M20 eM20.symm
  obtain ⟨hk, h⟩ := h
  refine z_putrF O zp_X15_37_14 dX15_init_58 hk ?_
  generalize eM21 : zr M20 a0 13 (some q19) = M21
  replace h := h M21 eM21.symm
  refine z_aload_n O dX15_init_61 rfl 0 rfl ?_
  refine z_bipush (v := 16) O dX15_init_62 rfl ?_
  obtain ⟨hn, hs, h⟩ := h
  refine z_newi (N := 16) O zac_int dX15_init_64 (by decide) (by decide) (by decide) hn hs (fun q22 fq22 => ?_)
  generalize eM23 : zn M21 q22 100 16 = M23
  replace h := h q22 fq22 M23 eM23.symm
  obtain ⟨hk, h⟩ := h
  refine z_putrF O zp_X15_40_14 dX15_init_66 hk ?_
  generalize eM24 : zr M23 a0 14 (some q22) = M24
  replace h := h M24 eM24.symm
  refine z_aload_n O dX15_init_69 rfl 0 rfl ?_
  refine z_iconst (v := (-1)) O dX15_init_70 rfl ?_
  obtain ⟨hk, h⟩ := h
  refine z_puti O zp_X15_43_14 dX15_init_71 hk ?_
  generalize eM25 : zi M24 a0 20 (-1) = M25
  replace h := h M25 eM25.symm
  refine z_aload_n O dX15_init_74 rfl 0 rfl ?_
  refine z_bipush (v := 23) O dX15_init_75 rfl ?_
  obtain ⟨hn, hs, h⟩ := h
  refine z_newi (N := 23) O zac_int dX15_init_77 (by decide) (by decide) (by decide) hn hs (fun q26 fq26 => ?_)
  generalize eM27 : zn M25 q26 100 23 = M27
  replace h := h q26 fq26 M27 eM27.symm
  obtain ⟨hk, h⟩ := h
  refine z_putrF O zp_X15_47_14 dX15_init_79 hk ?_
  generalize eM28 : zr M27 a0 21 (some q26) = M28
  replace h := h M28 eM28.symm
  refine z_aload_n O dX15_init_82 rfl 0 rfl ?_
  refine z_bipush (v := 64) O dX15_init_83 rfl ?_
  obtain ⟨hn, hs, h⟩ := h
  refine z_newi (N := 64) O zac_int dX15_init_85 (by decide) (by decide) (by decide) hn hs (fun q29 fq29 => ?_)
  generalize eM30 : zn M28 q29 100 64 = M30
  replace h := h q29 fq29 M30 eM30.symm
  obtain ⟨hk, h⟩ := h
  refine z_putrF O zp_X15_50_14 dX15_init_87 hk ?_
  generalize eM31 : zr M30 a0 23 (some q29) = M31
  replace h := h M31 eM31.symm
  refine z_aload_n O dX15_init_90 rfl 0 rfl ?_
  refine z_bipush (v := 64) O dX15_init_91 rfl ?_
  obtain ⟨hn, hs, h⟩ := h
  refine z_newi (N := 64) O zac_int dX15_init_93 (by decide) (by decide) (by decide) hn hs (fun q32 fq32 => ?_)
  generalize eM33 : zn M31 q32 100 64 = M33
  replace h := h q32 fq32 M33 eM33.symm
  obtain ⟨hk, h⟩ := h
  refine z_putrF O zp_X15_53_14 dX15_init_95 hk ?_
  generalize eM34 : zr M33 a0 24 (some q32) = M34
  replace h := h M34 eM34.symm
  refine z_aload_n O dX15_init_98 rfl 0 rfl ?_
  refine z_bipush (v := 64) O dX15_init_99 rfl ?_
  obtain ⟨hn, hs, h⟩ := h
  refine z_newi (N := 64) O zac_int dX15_init_101 (by decide) (by decide) (by decide) hn hs (fun q35 fq35 => ?_)
  generalize eM36 : zn M34 q35 100 64 = M36
  replace h := h q35 fq35 M36 eM36.symm
  obtain ⟨hk, h⟩ := h
  refine z_putrF O zp_X15_56_14 dX15_init_103 hk ?_
  generalize eM37 : zr M36 a0 25 (some q35) = M37
  replace h := h M37 eM37.symm
  refine z_aload_n O dX15_init_106 rfl 0 rfl ?_
  refine z_bipush (v := 40) O dX15_init_107 rfl ?_
  obtain ⟨hn, hs, h⟩ := h
  refine z_newr (t := 7) (N := 40) O rfl zcl_X15_13 (by decide) dX15_init_109 (by decide) (by decide) (by decide) hn hs (fun q38 fq38 => ?_)
  generalize eM39 : zn M37 q38 109 40 = M39
  replace h := h q38 fq38 M39 eM39.symm
  obtain ⟨hk, h⟩ := h
  refine z_putrF O zp_X15_59_14 dX15_init_112 hk ?_
  generalize eM40 : zr M39 a0 27 (some q38) = M40
  replace h := h M40 eM40.symm
  refine z_aload_n O dX15_init_115 rfl 0 rfl ?_
  refine z_bipush (v := 40) O dX15_init_116 rfl ?_
  obtain ⟨hn, hs, h⟩ := h
  refine z_newi (N := 40) O zac_int dX15_init_118 (by decide) (by decide) (by decide) hn hs (fun q41 fq41 => ?_)
  generalize eM42 : zn M40 q41 100 40 = M42
  replace h := h q41 fq41 M42 eM42.symm
  obtain ⟨hk, h⟩ := h
  refine z_putrF O zp_X15_62_14 dX15_init_120 hk ?_
  generalize eM43 : zr M42 a0 28 (some q41) = M43
  replace h := h M43 eM43.symm
  refine z_aload_n O dX15_init_123 rfl 0 rfl ?_
  refine z_bipush (v := 40) O dX15_init_124 rfl ?_
  obtain ⟨hn, hs, h⟩ := h
  refine z_newz (N := 40) O zac_boolean dX15_init_126 (by decide) (by decide) (by decide) hn hs (fun q44 fq44 => ?_)
  generalize eM45 : zn M43 q44 101 40 = M45
  replace h := h q44 fq44 M45 eM45.symm
  obtain ⟨hk, h⟩ := h
  refine z_putrF O zp_X15_65_14 dX15_init_128 hk ?_
  generalize eM46 : zr M45 a0 29 (some q44) = M46
  replace h := h M46 eM46.symm
  refine z_aload_n O dX15_init_131 rfl 0 rfl ?_
  refine z_bipush (v := 23) O dX15_init_132 rfl ?_
  obtain ⟨hn, hs, h⟩ := h
  refine z_newi (N := 23) O zac_int dX15_init_134 (by decide) (by decide) (by decide) hn hs (fun q47 fq47 => ?_)
  generalize eM48 : zn M46 q47 100 23 = M48
  replace h := h q47 fq47 M48 eM48.symm
  obtain ⟨hk, h⟩ := h
  refine z_putrF O zp_X15_69_14 dX15_init_136 hk ?_
  generalize eM49 : zr M48 a0 31 (some q47) = M49
  replace h := h M49 eM49.symm
  refine z_aload_n O dX15_init_139 rfl 0 rfl ?_
  refine z_bipush (v := 16) O dX15_init_140 rfl ?_
  obtain ⟨hn, hs, h⟩ := h
  refine z_newi (N := 16) O zac_int dX15_init_142 (by decide) (by decide) (by decide) hn hs (fun q50 fq50 => ?_)
  generalize eM51 : zn M49 q50 100 16 = M51
  replace h := h q50 fq50 M51 eM51.symm
  obtain ⟨hk, h⟩ := h
  refine z_putrF O zp_X15_72_14 dX15_init_144 hk ?_
  generalize eM52 : zr M51 a0 33 (some q50) = M52
  replace h := h M52 eM52.symm
  refine z_aload_n O dX15_init_147 rfl 0 rfl ?_
  refine z_bipush (v := 23) O dX15_init_148 rfl ?_
  obtain ⟨hn, hs, h⟩ := h
  refine z_newi (N := 23) O zac_int dX15_init_150 (by decide) (by decide) (by decide) hn hs (fun q53 fq53 => ?_)
  generalize eM54 : zn M52 q53 100 23 = M54
  replace h := h q53 fq53 M54 eM54.symm
  obtain ⟨hk, h⟩ := h
  refine z_putrF O zp_X15_75_14 dX15_init_152 hk ?_
  generalize eM55 : zr M54 a0 34 (some q53) = M55
  replace h := h M55 eM55.symm
  refine z_aload_n O dX15_init_155 rfl 0 rfl ?_
  refine z_bipush (v := 6) O dX15_init_156 rfl ?_
  obtain ⟨hn, hs, h⟩ := h
  refine z_newz (N := 6) O zac_boolean dX15_init_158 (by decide) (by decide) (by decide) hn hs (fun q56 fq56 => ?_)
  generalize eM57 : zn M55 q56 101 6 = M57
  replace h := h q56 fq56 M57 eM57.symm
  obtain ⟨hk, h⟩ := h
  refine z_putrF O zp_X15_78_14 dX15_init_160 hk ?_
  generalize eM58 : zr M57 a0 35 (some q56) = M58
  replace h := h M58 eM58.symm
  refine z_aload_n O dX15_init_163 rfl 0 rfl ?_
  refine z_iconst (v := 4) O dX15_init_164 rfl ?_
  obtain ⟨hn, hs, h⟩ := h
  refine z_newz (N := 4) O zac_boolean dX15_init_165 (by decide) (by decide) (by decide) hn hs (fun q59 fq59 => ?_)
  generalize eM60 : zn M58 q59 101 4 = M60
  replace h := h q59 fq59 M60 eM60.symm
  obtain ⟨hk, h⟩ := h
  refine z_putrF O zp_X15_81_14 dX15_init_167 hk ?_
  generalize eM61 : zr M60 a0 36 (some q59) = M61
  replace h := h M61 eM61.symm
  refine z_aload_n O dX15_init_170 rfl 0 rfl ?_
  refine z_bipush (v := 16) O dX15_init_171 rfl ?_
  obtain ⟨hn, hs, h⟩ := h
  refine z_newi (N := 16) O zac_int dX15_init_173 (by decide) (by decide) (by decide) hn hs (fun q62 fq62 => ?_)
  generalize eM63 : zn M61 q62 100 16 = M63
  replace h := h q62 fq62 M63 eM63.symm
  obtain ⟨hk, h⟩ := h
  refine z_putrF O zp_X15_84_14 dX15_init_175 hk ?_
  generalize eM64 : zr M63 a0 37 (some q62) = M64
  replace h := h M64 eM64.symm
  refine z_aload_n O dX15_init_178 rfl 0 rfl ?_
  refine z_bipush (v := 60) O dX15_init_179 rfl ?_
  obtain ⟨hn, hs, h⟩ := h
  refine z_newi (N := 60) O zac_int dX15_init_181 (by decide) (by decide) (by decide) hn hs (fun q65 fq65 => ?_)
  generalize eM66 : zn M64 q65 100 60 = M66
  replace h := h q65 fq65 M66 eM66.symm
  obtain ⟨hk, h⟩ := h
  refine z_putrF O zp_X15_87_14 dX15_init_183 hk ?_
  generalize eM67 : zr M66 a0 38 (some q65) = M67
  replace h := h M67 eM67.symm
  refine z_iconst (v := 0) O dX15_init_186 rfl ?_
  refine z_istore_n (lv' := [(1, .int 0), (0, .ref a0)]) O dX15_init_187 rfl (by decide) rfl ?_
  exact z_to [1, 0] rfl h
set_option maxRecDepth 100000 in
set_option maxHeartbeats 4000000 in
theorem b_X15_init_188 {G : zG} {X : zX} (O : zOK G X cX15_init 2 RX15 none "<init>") (hR : X.R = rm_X15_init) {M : zM} {n k : Nat} {a0 : Nat} {x1 : Int32} (h : (24 ≤ x1 → zW G X 2 M n k 215 [(0, .ref a0), (1, .int 0)] []) ∧ (¬ 24 ≤ x1 → M.1 a0 = 15 ∧ ∃ b1 : Nat, M.2.2.2 a0 8 = some b1 ∧ n + 1 ≤ X.R.cells ∧ k + 28 ≤ X.R.slots ∧ ∀ q2 : Nat, M.1 q2 = 0 → ∀ M3 : zM, M3 = zn M q2 13 0 → (n + 1) + 25 ≤ X.R.cells ∧ (k + 28) + 453 ≤ X.R.slots ∧ zC G yX13_init cX13_init 1 none rm_X13_init M3 [.ref q2] (fun M4 v => v = none ∧ M4.1 b1 = 110 ∧ M4.1 q2 = 13 ∧ vp_in x1 (M4.2.1 b1) ∧ ∀ M5 : zM, M5 = zr M4 b1 (x1.toNatClampNeg) (some q2) → ∀ y6 : Int32, y6 = x1 + 1 → zW G X 2 M5 ((n + 1) + 25) ((k + 28) + 453) 188 [(0, .ref a0), (1, .int y6)] []))) : zW G X 2 M n k 188 [(0, .ref a0), (1, .int x1)] [] := by
  refine z_iload_n O dX15_init_188 rfl 1 rfl ?_
  refine z_bipush (v := 24) O dX15_init_189 rfl ?_
  refine z_icmp_ge O 213 dX15_init_191 (by decide) (fun c => ?_) (fun c => ?_)
  · replace h := h.1 c
    refine z_iconst (v := 0) O dX15_init_213 rfl ?_
    refine z_istore_n (lv' := [(1, .int 0), (0, .ref a0)]) O dX15_init_214 rfl (by decide) rfl ?_
    exact z_to [1, 0] rfl h
  · replace h := h.2 c
    refine z_aload_n O dX15_init_194 rfl 0 rfl ?_
    obtain ⟨hk, b1, hr, h⟩ := h
    refine z_getr O zf_X15_21_14 dX15_init_195 hk hr ?_
    refine z_iload_n O dX15_init_198 rfl 1 rfl ?_
    obtain ⟨hn, hs, h⟩ := h
    refine z_new O zn_X15_19 dX15_init_199 hn hs (fun q2 fq2 => ?_)
    generalize eM3 : zn M q2 13 0 = M3
    replace h := h q2 fq2 M3 eM3.symm
    refine z_dup O dX15_init_202 rfl ?_
    obtain ⟨hn, hs, h⟩ := h
    refine z_callINk (As := []) O zc_X15_90 h rfl (zRm_of hR (by decide) (by decide)) (Nat.le_of_ble_eq_true rfl) dX15_init_203 (mc := 25) (ms := 453) rfl rfl hn hs rfl (fun M4 v h => ?_)
    obtain ⟨rfl, h⟩ := h
    obtain ⟨hk, hkv, hi, h⟩ := h
    refine z_ast (t := 8) (ci := 12) (C := RX13) (T := TX13) (N := 28) O rfl rfl (by decide) dX15_init_206 hk hkv hi ?_
    generalize eM5 : zr M4 b1 (x1.toNatClampNeg) (some q2) = M5
    replace h := h M5 eM5.symm
    obtain ⟨y6, ey6⟩ : ∃ y : Int32, y = x1 + 1 := ⟨_, rfl⟩
    replace h := h y6 ey6
    refine z_iinc (v := y6) (lv' := [(1, .int y6), (0, .ref a0)]) O dX15_init_207 (q := 1) rfl (by rw [ey6]; rfl) (by decide) rfl ?_
    refine z_goto O 188 dX15_init_210 (by decide) ?_
    exact z_to [1, 0] rfl h
set_option maxRecDepth 100000 in
set_option maxHeartbeats 4000000 in
theorem b_X15_init_215 {G : zG} {X : zX} (O : zOK G X cX15_init 2 RX15 none "<init>") (hR : X.R = rm_X15_init) {M : zM} {n k : Nat} {a0 : Nat} {x1 : Int32} (h : (5 ≤ x1 → zW G X 2 M n k 241 [(0, .ref a0), (1, .int 0)] []) ∧ (¬ 5 ≤ x1 → M.1 a0 = 15 ∧ ∃ b1 : Nat, M.2.2.2 a0 10 = some b1 ∧ n + 1 ≤ X.R.cells ∧ k + 7 ≤ X.R.slots ∧ ∀ q2 : Nat, M.1 q2 = 0 → ∀ M3 : zM, M3 = zn M q2 12 0 → (n + 1) + 35 ≤ X.R.cells ∧ (k + 7) + 578 ≤ X.R.slots ∧ zC G yX12_init cX12_init 1 none rm_X12_init M3 [.ref q2] (fun M4 v => v = none ∧ M4.1 b1 = 111 ∧ M4.1 q2 = 12 ∧ vp_in x1 (M4.2.1 b1) ∧ ∀ M5 : zM, M5 = zr M4 b1 (x1.toNatClampNeg) (some q2) → ∀ y6 : Int32, y6 = x1 + 1 → zW G X 2 M5 ((n + 1) + 35) ((k + 7) + 578) 215 [(0, .ref a0), (1, .int y6)] []))) : zW G X 2 M n k 215 [(0, .ref a0), (1, .int x1)] [] := by
  refine z_iload_n O dX15_init_215 rfl 1 rfl ?_
  refine z_iconst (v := 5) O dX15_init_216 rfl ?_
  refine z_icmp_ge O 239 dX15_init_217 (by decide) (fun c => ?_) (fun c => ?_)
  · replace h := h.1 c
    refine z_iconst (v := 0) O dX15_init_239 rfl ?_
    refine z_istore_n (lv' := [(1, .int 0), (0, .ref a0)]) O dX15_init_240 rfl (by decide) rfl ?_
    exact z_to [1, 0] rfl h
  · replace h := h.2 c
    refine z_aload_n O dX15_init_220 rfl 0 rfl ?_
    obtain ⟨hk, b1, hr, h⟩ := h
    refine z_getr O zf_X15_27_14 dX15_init_221 hk hr ?_
    refine z_iload_n O dX15_init_224 rfl 1 rfl ?_
    obtain ⟨hn, hs, h⟩ := h
    refine z_new O zn_X15_25 dX15_init_225 hn hs (fun q2 fq2 => ?_)
    generalize eM3 : zn M q2 12 0 = M3
    replace h := h q2 fq2 M3 eM3.symm
    refine z_dup O dX15_init_228 rfl ?_
    obtain ⟨hn, hs, h⟩ := h
    refine z_callINk (As := []) O zc_X15_91 h rfl (zRm_of hR (by decide) (by decide)) (Nat.le_of_ble_eq_true rfl) dX15_init_229 (mc := 35) (ms := 578) rfl rfl hn hs rfl (fun M4 v h => ?_)
    obtain ⟨rfl, h⟩ := h
    obtain ⟨hk, hkv, hi, h⟩ := h
    refine z_ast (t := 9) (ci := 11) (C := RX12) (T := TX12) (N := 7) O rfl rfl (by decide) dX15_init_232 hk hkv hi ?_
    generalize eM5 : zr M4 b1 (x1.toNatClampNeg) (some q2) = M5
    replace h := h M5 eM5.symm
    obtain ⟨y6, ey6⟩ : ∃ y : Int32, y = x1 + 1 := ⟨_, rfl⟩
    replace h := h y6 ey6
    refine z_iinc (v := y6) (lv' := [(1, .int y6), (0, .ref a0)]) O dX15_init_233 (q := 1) rfl (by rw [ey6]; rfl) (by decide) rfl ?_
    refine z_goto O 215 dX15_init_236 (by decide) ?_
    exact z_to [1, 0] rfl h
set_option maxRecDepth 100000 in
set_option maxHeartbeats 4000000 in
theorem b_X15_init_241 {G : zG} {X : zX} (O : zOK G X cX15_init 2 RX15 none "<init>") (hR : X.R = rm_X15_init) {M : zM} {n k : Nat} {a0 : Nat} {x1 : Int32} (h : (6 ≤ x1 → X.q M none) ∧ (¬ 6 ≤ x1 → M.1 a0 = 15 ∧ ∃ b1 : Nat, M.2.2.2 a0 6 = some b1 ∧ n + 1 ≤ X.R.cells ∧ k + 6 ≤ X.R.slots ∧ ∀ q2 : Nat, M.1 q2 = 0 → ∀ M3 : zM, M3 = zn M q2 14 0 → (n + 1) + 13 ≤ X.R.cells ∧ (k + 6) + 224 ≤ X.R.slots ∧ zC G yX14_init cX14_init 1 none rm_X14_init M3 [.ref q2] (fun M4 v => v = none ∧ M4.1 b1 = 109 ∧ M4.1 q2 = 14 ∧ vp_in x1 (M4.2.1 b1) ∧ ∀ M5 : zM, M5 = zr M4 b1 (x1.toNatClampNeg) (some q2) → ∀ y6 : Int32, y6 = x1 + 1 → zW G X 2 M5 ((n + 1) + 13) ((k + 6) + 224) 241 [(0, .ref a0), (1, .int y6)] []))) : zW G X 2 M n k 241 [(0, .ref a0), (1, .int x1)] [] := by
  refine z_iload_n O dX15_init_241 rfl 1 rfl ?_
  refine z_bipush (v := 6) O dX15_init_242 rfl ?_
  refine z_icmp_ge O 266 dX15_init_244 (by decide) (fun c => ?_) (fun c => ?_)
  · replace h := h.1 c
    exact z_vret O dX15_init_266 h
  · replace h := h.2 c
    refine z_aload_n O dX15_init_247 rfl 0 rfl ?_
    obtain ⟨hk, b1, hr, h⟩ := h
    refine z_getr O zf_X15_15_14 dX15_init_248 hk hr ?_
    refine z_iload_n O dX15_init_251 rfl 1 rfl ?_
    obtain ⟨hn, hs, h⟩ := h
    refine z_new O zn_X15_13 dX15_init_252 hn hs (fun q2 fq2 => ?_)
    generalize eM3 : zn M q2 14 0 = M3
    replace h := h q2 fq2 M3 eM3.symm
    refine z_dup O dX15_init_255 rfl ?_
    obtain ⟨hn, hs, h⟩ := h
    refine z_callINk (As := []) O zc_X15_92 h rfl (zRm_of hR (by decide) (by decide)) (Nat.le_of_ble_eq_true rfl) dX15_init_256 (mc := 13) (ms := 224) rfl rfl hn hs rfl (fun M4 v h => ?_)
    obtain ⟨rfl, h⟩ := h
    obtain ⟨hk, hkv, hi, h⟩ := h
    refine z_ast (t := 7) (ci := 13) (C := RX14) (T := TX14) (N := 6) O rfl rfl (by decide) dX15_init_259 hk hkv hi ?_
    generalize eM5 : zr M4 b1 (x1.toNatClampNeg) (some q2) = M5
    replace h := h M5 eM5.symm
    obtain ⟨y6, ey6⟩ : ∃ y : Int32, y = x1 + 1 := ⟨_, rfl⟩
    replace h := h y6 ey6
    refine z_iinc (v := y6) (lv' := [(1, .int y6), (0, .ref a0)]) O dX15_init_260 (q := 1) rfl (by rw [ey6]; rfl) (by decide) rfl ?_
    refine z_goto O 241 dX15_init_263 (by decide) ?_
    exact z_to [1, 0] rfl h
set_option maxRecDepth 100000 in
set_option maxHeartbeats 4000000 in
theorem b_X15_thrown_0 {G : zG} {X : zX} (O : zOK G X cX15_thrown 1 RX15 (some .int) "thrown") (hR : X.R = rm_X15_thrown) {M : zM} {n k : Nat} {a0 : Nat} (h : M.1 a0 = 15 ∧ X.q M (some (.int (M.2.2.1 a0 0)))) : zW G X 1 M n k 0 [(0, .ref a0)] [] := by
  refine z_aload_n O dX15_thrown_0 rfl 0 rfl ?_
  obtain ⟨hk, h⟩ := h
  refine z_geti O zf_X15_93_14 dX15_thrown_1 hk ?_
  exact z_iret O dX15_thrown_4 h
set_option maxRecDepth 100000 in
set_option maxHeartbeats 4000000 in
theorem b_X15_in_0 {G : zG} {X : zX} (O : zOK G X cX15_in 3 RX15 (some .boolean) "in") (hR : X.R = rm_X15_in) {M : zM} {n k : Nat} {x0 : Int32} {x1 : Int32} {x2 : Int32} (h : (x0 < x1 → X.q M (some (.int 0))) ∧ (¬ x0 < x1 → (x2 < x0 → X.q M (some (.int 0))) ∧ (¬ x2 < x0 → X.q M (some (.int 1))))) : zW G X 3 M n k 0 [(0, .int x0), (1, .int x1), (2, .int x2)] [] := by
  refine z_iload_n O dX15_in_0 rfl 0 rfl ?_
  refine z_iload_n O dX15_in_1 rfl 1 rfl ?_
  refine z_icmp_lt O 14 dX15_in_2 (by decide) (fun c => ?_) (fun c => ?_)
  · replace h := h.1 c
    refine z_iconst (v := 0) O dX15_in_14 rfl ?_
    exact z_zret O dX15_in_15 (by decide) h
  · replace h := h.2 c
    refine z_iload_n O dX15_in_5 rfl 0 rfl ?_
    refine z_iload_n O dX15_in_6 rfl 2 rfl ?_
    refine z_icmp_gt O 14 dX15_in_7 (by decide) (fun c => ?_) (fun c => ?_)
    · replace h := h.1 c
      refine z_iconst (v := 0) O dX15_in_14 rfl ?_
      exact z_zret O dX15_in_15 (by decide) h
    · replace h := h.2 c
      refine z_iconst (v := 1) O dX15_in_10 rfl ?_
      refine z_goto O 15 dX15_in_11 (by decide) ?_
      exact z_zret O dX15_in_15 (by decide) h
set_option maxRecDepth 100000 in
set_option maxHeartbeats 4000000 in
theorem b_X15_isLine_0 {G : zG} {X : zX} (O : zOK G X cX15_isLine 2 RX15 (some .boolean) "isLine") (hR : X.R = rm_X15_isLine) {M : zM} {n k : Nat} {a0 : Nat} {x1 : Int32} (h : M.1 a0 = 15 ∧ zC G yX15_in cX15_in 3 (some .boolean) rm_X15_in M [.int x1, .int 0, .int ((M.2.2.1 a0 4) - 1)] (fun M1 v => ∃ r2 : Int32, v = some (.int r2) ∧ (r2 = 0 ∨ r2 = 1) ∧ X.q M1 (some (.int r2)))) : zW G X 2 M n k 0 [(0, .ref a0), (1, .int x1)] [] := by
  refine z_iload_n O dX15_isLine_0 rfl 1 rfl ?_
  refine z_iconst (v := 0) O dX15_isLine_1 rfl ?_
  refine z_aload_n O dX15_isLine_2 rfl 0 rfl ?_
  obtain ⟨hk, h⟩ := h
  refine z_geti O zf_X15_132_14 dX15_isLine_3 hk ?_
  refine z_iconst (v := 1) O dX15_isLine_6 rfl ?_
  refine z_isub O dX15_isLine_7 ?_
  refine z_callS0 (As := [.int x1, .int 0, .int ((M.2.2.1 a0 4) - 1)]) O zc_X15_135 h rfl (zRm_of hR (by decide) (by decide)) (Nat.le_of_ble_eq_true rfl) dX15_isLine_8 rfl rfl rfl (fun M1 v h => ?_)
  obtain ⟨r2, rfl, h⟩ := h
  exact z_zret O dX15_isLine_11 h.1 h.2
set_option maxRecDepth 100000 in
set_option maxHeartbeats 4000000 in
theorem b_X15_isDevice_0 {G : zG} {X : zX} (O : zOK G X cX15_isDevice 2 RX15 (some .boolean) "isDevice") (hR : X.R = rm_X15_isDevice) {M : zM} {n k : Nat} {a0 : Nat} {x1 : Int32} (h : M.1 a0 = 15 ∧ zC G yX15_in cX15_in 3 (some .boolean) rm_X15_in M [.int x1, .int 0, .int ((M.2.2.1 a0 7) - 1)] (fun M1 v => ∃ r2 : Int32, v = some (.int r2) ∧ (r2 = 0 ∨ r2 = 1) ∧ X.q M1 (some (.int r2)))) : zW G X 2 M n k 0 [(0, .ref a0), (1, .int x1)] [] := by
  refine z_iload_n O dX15_isDevice_0 rfl 1 rfl ?_
  refine z_iconst (v := 0) O dX15_isDevice_1 rfl ?_
  refine z_aload_n O dX15_isDevice_2 rfl 0 rfl ?_
  obtain ⟨hk, h⟩ := h
  refine z_geti O zf_X15_139_14 dX15_isDevice_3 hk ?_
  refine z_iconst (v := 1) O dX15_isDevice_6 rfl ?_
  refine z_isub O dX15_isDevice_7 ?_
  refine z_callS0 (As := [.int x1, .int 0, .int ((M.2.2.1 a0 7) - 1)]) O zc_X15_135 h rfl (zRm_of hR (by decide) (by decide)) (Nat.le_of_ble_eq_true rfl) dX15_isDevice_8 rfl rfl rfl (fun M1 v h => ?_)
  obtain ⟨r2, rfl, h⟩ := h
  exact z_zret O dX15_isDevice_11 h.1 h.2
set_option maxRecDepth 100000 in
set_option maxHeartbeats 4000000 in
theorem b_X15_isCoupler_0 {G : zG} {X : zX} (O : zOK G X cX15_isCoupler 2 RX15 (some .boolean) "isCoupler") (hR : X.R = rm_X15_isCoupler) {M : zM} {n k : Nat} {a0 : Nat} {x1 : Int32} (h : M.1 a0 = 15 ∧ zC G yX15_in cX15_in 3 (some .boolean) rm_X15_in M [.int x1, .int 0, .int ((M.2.2.1 a0 9) - 1)] (fun M1 v => ∃ r2 : Int32, v = some (.int r2) ∧ (r2 = 0 ∨ r2 = 1) ∧ X.q M1 (some (.int r2)))) : zW G X 2 M n k 0 [(0, .ref a0), (1, .int x1)] [] := by
  refine z_iload_n O dX15_isCoupler_0 rfl 1 rfl ?_
  refine z_iconst (v := 0) O dX15_isCoupler_1 rfl ?_
  refine z_aload_n O dX15_isCoupler_2 rfl 0 rfl ?_
  obtain ⟨hk, h⟩ := h
  refine z_geti O zf_X15_142_14 dX15_isCoupler_3 hk ?_
  refine z_iconst (v := 1) O dX15_isCoupler_6 rfl ?_
  refine z_isub O dX15_isCoupler_7 ?_
  refine z_callS0 (As := [.int x1, .int 0, .int ((M.2.2.1 a0 9) - 1)]) O zc_X15_135 h rfl (zRm_of hR (by decide) (by decide)) (Nat.le_of_ble_eq_true rfl) dX15_isCoupler_8 rfl rfl rfl (fun M1 v h => ?_)
  obtain ⟨r2, rfl, h⟩ := h
  exact z_zret O dX15_isCoupler_11 h.1 h.2
set_option maxRecDepth 100000 in
set_option maxHeartbeats 4000000 in
theorem b_X15_isObject_0 {G : zG} {X : zX} (O : zOK G X cX15_isObject 3 RX15 (some .boolean) "isObject") (hR : X.R = rm_X15_isObject) {M : zM} {n k : Nat} {a0 : Nat} {x1 : Int32} {x2 : Int32} (h : M.1 a0 = 15 ∧ zC G yX15_isDevice cX15_isDevice 2 (some .boolean) rm_X15_isDevice M [.ref a0, .int x1] (fun M1 v => ∃ r2 : Int32, v = some (.int r2) ∧ (r2 = 0 → X.q M1 (some (.int 0))) ∧ (¬ r2 = 0 → M1.1 a0 = 15 ∧ ∃ b3 : Nat, M1.2.2.2 a0 8 = some b3 ∧ M1.1 b3 = 110 ∧ vp_in x1 (M1.2.1 b3) ∧ ∃ b4 : Nat, M1.2.2.2 b3 x1.toNatClampNeg = some b4 ∧ M1.1 b4 = 13 ∧ zC G yX15_in cX15_in 3 (some .boolean) rm_X15_in M1 [.int x2, .int 0, .int ((M1.2.2.1 b4 6) - 1)] (fun M5 v => ∃ r6 : Int32, v = some (.int r6) ∧ (r6 = 0 → X.q M5 (some (.int 0))) ∧ (¬ r6 = 0 → X.q M5 (some (.int 1))))))) : zW G X 3 M n k 0 [(0, .ref a0), (1, .int x1), (2, .int x2)] [] := by
  refine z_aload_n O dX15_isObject_0 rfl 0 rfl ?_
  refine z_iload_n O dX15_isObject_1 rfl 1 rfl ?_
  obtain ⟨hk, h⟩ := h
  refine z_callV0 (As := [.int x1]) O zc_X15_145 h hk rfl (zRm_of hR (by decide) (by decide)) (Nat.le_of_ble_eq_true rfl) dX15_isObject_2 rfl rfl rfl (fun M1 v h => ?_)
  obtain ⟨r2, rfl, h⟩ := h
  refine z_if_eq O 31 dX15_isObject_5 (by decide) (fun c => ?_) (fun c => ?_)
  · replace h := h.1 c
    refine z_iconst (v := 0) O dX15_isObject_31 rfl ?_
    exact z_zret O dX15_isObject_32 (by decide) h
  · replace h := h.2 c
    refine z_iload_n O dX15_isObject_8 rfl 2 rfl ?_
    refine z_iconst (v := 0) O dX15_isObject_9 rfl ?_
    refine z_aload_n O dX15_isObject_10 rfl 0 rfl ?_
    obtain ⟨hk, b3, hr, h⟩ := h
    refine z_getr O zf_X15_21_14 dX15_isObject_11 hk hr ?_
    refine z_iload_n O dX15_isObject_14 rfl 1 rfl ?_
    obtain ⟨hk, hi, b4, hr, h⟩ := h
    refine z_ald (t := 8) O rfl dX15_isObject_15 hk hi hr ?_
    obtain ⟨hk, h⟩ := h
    refine z_geti O zf_X15_149_12 dX15_isObject_16 hk ?_
    refine z_iconst (v := 1) O dX15_isObject_19 rfl ?_
    refine z_isub O dX15_isObject_20 ?_
    refine z_callS0 (As := [.int x2, .int 0, .int ((M1.2.2.1 b4 6) - 1)]) O zc_X15_135 h rfl (zRm_of hR (by decide) (by decide)) (Nat.le_of_ble_eq_true rfl) dX15_isObject_21 rfl rfl rfl (fun M5 v h => ?_)
    obtain ⟨r6, rfl, h⟩ := h
    refine z_if_eq O 31 dX15_isObject_24 (by decide) (fun c => ?_) (fun c => ?_)
    · replace h := h.1 c
      refine z_iconst (v := 0) O dX15_isObject_31 rfl ?_
      exact z_zret O dX15_isObject_32 (by decide) h
    · replace h := h.2 c
      refine z_iconst (v := 1) O dX15_isObject_27 rfl ?_
      refine z_goto O 32 dX15_isObject_28 (by decide) ?_
      exact z_zret O dX15_isObject_32 (by decide) h
set_option maxRecDepth 100000 in
set_option maxHeartbeats 4000000 in
theorem b_X15_lineOf_0 {G : zG} {X : zX} (O : zOK G X cX15_lineOf 4 RX15 (some .int) "lineOf") (hR : X.R = rm_X15_lineOf) {M : zM} {n k : Nat} {a0 : Nat} {x1 : Int32} (h : zW G X 4 M n k 4 [(0, .ref a0), (1, .int x1), (2, .int (-1)), (3, .int 0)] []) : zW G X 4 M n k 0 [(0, .ref a0), (1, .int x1)] [] := by
  refine z_iconst (v := (-1)) O dX15_lineOf_0 rfl ?_
  refine z_istore_n (lv' := [(2, .int (-1)), (0, .ref a0), (1, .int x1)]) O dX15_lineOf_1 rfl (by decide) rfl ?_
  refine z_iconst (v := 0) O dX15_lineOf_2 rfl ?_
  refine z_istore_n (lv' := [(3, .int 0), (2, .int (-1)), (0, .ref a0), (1, .int x1)]) O dX15_lineOf_3 rfl (by decide) rfl ?_
  exact z_to [2, 3, 1, 0] rfl h
set_option maxRecDepth 100000 in
set_option maxHeartbeats 4000000 in
theorem b_X15_lineOf_4 {G : zG} {X : zX} (O : zOK G X cX15_lineOf 4 RX15 (some .int) "lineOf") (hR : X.R = rm_X15_lineOf) {M : zM} {n k : Nat} {a0 : Nat} {x1 : Int32} {x2 : Int32} {x3 : Int32} (h : M.1 a0 = 15 ∧ ((M.2.2.1 a0 4) ≤ x3 → X.q M (some (.int x2))) ∧ (¬ (M.2.2.1 a0 4) ≤ x3 → M.1 a0 = 15 ∧ ∃ b1 : Nat, M.2.2.2 a0 5 = some b1 ∧ M.1 b1 = 100 ∧ vp_in x3 (M.2.1 b1) ∧ (¬ (M.2.2.1 b1 x3.toNatClampNeg) = x1 → ∀ y2 : Int32, y2 = x3 + 1 → zW G X 4 M n k 4 [(0, .ref a0), (1, .int x1), (2, .int x2), (3, .int y2)] []) ∧ ((M.2.2.1 b1 x3.toNatClampNeg) = x1 → ∀ y3 : Int32, y3 = x3 + 1 → zW G X 4 M n k 4 [(0, .ref a0), (1, .int x1), (2, .int x3), (3, .int y3)] []))) : zW G X 4 M n k 4 [(0, .ref a0), (1, .int x1), (2, .int x2), (3, .int x3)] [] := by
  refine z_iload_n O dX15_lineOf_4 rfl 3 rfl ?_
  refine z_aload_n O dX15_lineOf_5 rfl 0 rfl ?_
  obtain ⟨hk, h⟩ := h
  refine z_geti O zf_X15_132_14 dX15_lineOf_6 hk ?_
  refine z_icmp_ge O 30 dX15_lineOf_9 (by decide) (fun c => ?_) (fun c => ?_)
  · replace h := h.1 c
    refine z_iload_n O dX15_lineOf_30 rfl 2 rfl ?_
    exact z_iret O dX15_lineOf_31 h
  · replace h := h.2 c
    refine z_aload_n O dX15_lineOf_12 rfl 0 rfl ?_
    obtain ⟨hk, b1, hr, h⟩ := h
    refine z_getr O zf_X15_7_14 dX15_lineOf_13 hk hr ?_
    refine z_iload_n O dX15_lineOf_16 rfl 3 rfl ?_
    obtain ⟨hk, hi, h⟩ := h
    refine z_iald O dX15_lineOf_17 hk hi ?_
    refine z_iload_n O dX15_lineOf_18 rfl 1 rfl ?_
    refine z_icmp_ne O 24 dX15_lineOf_19 (by decide) (fun c => ?_) (fun c => ?_)
    · replace h := h.1 c
      obtain ⟨y2, ey2⟩ : ∃ y : Int32, y = x3 + 1 := ⟨_, rfl⟩
      replace h := h y2 ey2
      refine z_iinc (v := y2) (lv' := [(3, .int y2), (0, .ref a0), (1, .int x1), (2, .int x2)]) O dX15_lineOf_24 (q := 3) rfl (by rw [ey2]; rfl) (by decide) rfl ?_
      refine z_goto O 4 dX15_lineOf_27 (by decide) ?_
      exact z_to [1, 2, 3, 0] rfl h
    · replace h := h.2 c
      refine z_iload_n O dX15_lineOf_22 rfl 3 rfl ?_
      refine z_istore_n (lv' := [(2, .int x3), (0, .ref a0), (1, .int x1), (3, .int x3)]) O dX15_lineOf_23 rfl (by decide) rfl ?_
      obtain ⟨y3, ey3⟩ : ∃ y : Int32, y = x3 + 1 := ⟨_, rfl⟩
      replace h := h y3 ey3
      refine z_iinc (v := y3) (lv' := [(3, .int y3), (2, .int x3), (0, .ref a0), (1, .int x1)]) O dX15_lineOf_24 (q := 3) rfl (by rw [ey3]; rfl) (by decide) rfl ?_
      refine z_goto O 4 dX15_lineOf_27 (by decide) ?_
      exact z_to [2, 3, 1, 0] rfl h
set_option maxRecDepth 100000 in
set_option maxHeartbeats 4000000 in
theorem b_X15_line_0 {G : zG} {X : zX} (O : zOK G X cX15_line 2 RX15 (some .int) "line") (hR : X.R = rm_X15_line) {M : zM} {n k : Nat} {a0 : Nat} {x1 : Int32} (h : M.1 a0 = 15 ∧ ∀ M1 : zM, M1 = zi M a0 0 0 → M1.1 a0 = 15 ∧ ((M1.2.2.1 a0 4) = 6 → X.q M1 (some (.int (-1)))) ∧ (¬ (M1.2.2.1 a0 4) = 6 → zC G yX15_in cX15_in 3 (some .boolean) rm_X15_in M1 [.int x1, .int 0, .int 255] (fun M2 v => ∃ r3 : Int32, v = some (.int r3) ∧ (r3 = 0 → X.q M2 (some (.int (-1)))) ∧ (¬ r3 = 0 → M2.1 a0 = 15 ∧ zC G yX15_lineOf cX15_lineOf 4 (some .int) rm_X15_lineOf M2 [.ref a0, .int x1] (fun M4 v => ∃ r5 : Int32, v = some (.int r5) ∧ (r5 = (-1) → M4.1 a0 = 15 ∧ ∃ b6 : Nat, M4.2.2.2 a0 5 = some b6 ∧ M4.1 a0 = 15 ∧ M4.1 b6 = 100 ∧ vp_in ((M4.2.2.1 a0 4)) (M4.2.1 b6) ∧ ∀ M7 : zM, M7 = zi M4 b6 (((M4.2.2.1 a0 4)).toNatClampNeg) x1 → M7.1 a0 = 15 ∧ M7.1 a0 = 15 ∧ ∀ M8 : zM, M8 = zi M7 a0 4 ((M7.2.2.1 a0 4) + 1) → M8.1 a0 = 15 ∧ X.q M8 (some (.int ((M8.2.2.1 a0 4) - 1)))) ∧ (¬ r5 = (-1) → X.q M4 (some (.int (-1))))))))) : zW G X 2 M n k 0 [(0, .ref a0), (1, .int x1)] [] := by
  refine z_aload_n O dX15_line_0 rfl 0 rfl ?_
  refine z_iconst (v := 0) O dX15_line_1 rfl ?_
  obtain ⟨hk, h⟩ := h
  refine z_puti O zp_X15_93_14 dX15_line_2 hk ?_
  generalize eM1 : zi M a0 0 0 = M1
  replace h := h M1 eM1.symm
  refine z_aload_n O dX15_line_5 rfl 0 rfl ?_
  obtain ⟨hk, h⟩ := h
  refine z_geti O zf_X15_132_14 dX15_line_6 hk ?_
  refine z_bipush (v := 6) O dX15_line_9 rfl ?_
  refine z_icmp_eq O 34 dX15_line_11 (by decide) (fun c => ?_) (fun c => ?_)
  · replace h := h.1 c
    refine z_iconst (v := (-1)) O dX15_line_34 rfl ?_
    exact z_iret O dX15_line_35 h
  · replace h := h.2 c
    refine z_iload_n O dX15_line_14 rfl 1 rfl ?_
    refine z_iconst (v := 0) O dX15_line_15 rfl ?_
    refine z_sipush (v := 255) O dX15_line_16 rfl ?_
    refine z_callS0 (As := [.int x1, .int 0, .int 255]) O zc_X15_135 h rfl (zRm_of hR (by decide) (by decide)) (Nat.le_of_ble_eq_true rfl) dX15_line_19 rfl rfl rfl (fun M2 v h => ?_)
    obtain ⟨r3, rfl, h⟩ := h
    refine z_if_eq O 34 dX15_line_22 (by decide) (fun c => ?_) (fun c => ?_)
    · replace h := h.1 c
      refine z_iconst (v := (-1)) O dX15_line_34 rfl ?_
      exact z_iret O dX15_line_35 h
    · replace h := h.2 c
      refine z_aload_n O dX15_line_25 rfl 0 rfl ?_
      refine z_iload_n O dX15_line_26 rfl 1 rfl ?_
      obtain ⟨hk, h⟩ := h
      refine z_callV0 (As := [.int x1]) O zc_X15_355 h hk rfl (zRm_of hR (by decide) (by decide)) (Nat.le_of_ble_eq_true rfl) dX15_line_27 rfl rfl rfl (fun M4 v h => ?_)
      obtain ⟨r5, rfl, h⟩ := h
      refine z_iconst (v := (-1)) O dX15_line_30 rfl ?_
      refine z_icmp_eq O 36 dX15_line_31 (by decide) (fun c => ?_) (fun c => ?_)
      · replace h := h.1 c
        refine z_aload_n O dX15_line_36 rfl 0 rfl ?_
        obtain ⟨hk, b6, hr, h⟩ := h
        refine z_getr O zf_X15_7_14 dX15_line_37 hk hr ?_
        refine z_aload_n O dX15_line_40 rfl 0 rfl ?_
        obtain ⟨hk, h⟩ := h
        refine z_geti O zf_X15_132_14 dX15_line_41 hk ?_
        refine z_iload_n O dX15_line_44 rfl 1 rfl ?_
        obtain ⟨hk, hi, h⟩ := h
        refine z_iast O dX15_line_45 hk hi ?_
        generalize eM7 : zi M4 b6 (((M4.2.2.1 a0 4)).toNatClampNeg) x1 = M7
        replace h := h M7 eM7.symm
        refine z_aload_n O dX15_line_46 rfl 0 rfl ?_
        refine z_dup O dX15_line_47 rfl ?_
        obtain ⟨hk, h⟩ := h
        refine z_geti O zf_X15_132_14 dX15_line_48 hk ?_
        refine z_iconst (v := 1) O dX15_line_51 rfl ?_
        refine z_iadd O dX15_line_52 ?_
        obtain ⟨hk, h⟩ := h
        refine z_puti O zp_X15_132_14 dX15_line_53 hk ?_
        generalize eM8 : zi M7 a0 4 ((M7.2.2.1 a0 4) + 1) = M8
        replace h := h M8 eM8.symm
        refine z_aload_n O dX15_line_56 rfl 0 rfl ?_
        obtain ⟨hk, h⟩ := h
        refine z_geti O zf_X15_132_14 dX15_line_57 hk ?_
        refine z_iconst (v := 1) O dX15_line_60 rfl ?_
        refine z_isub O dX15_line_61 ?_
        exact z_iret O dX15_line_62 h
      · replace h := h.2 c
        refine z_iconst (v := (-1)) O dX15_line_34 rfl ?_
        exact z_iret O dX15_line_35 h
set_option maxRecDepth 100000 in
set_option maxHeartbeats 4000000 in
theorem b_X15_device_0 {G : zG} {X : zX} (O : zOK G X cX15_device 5 RX15 (some .int) "device") (hR : X.R = rm_X15_device) {M : zM} {n k : Nat} {a0 : Nat} {x1 : Int32} {x2 : Int32} (h : M.1 a0 = 15 ∧ ∀ M1 : zM, M1 = zi M a0 0 0 → M1.1 a0 = 15 ∧ ((M1.2.2.1 a0 7) = 24 → X.q M1 (some (.int (-1)))) ∧ (¬ (M1.2.2.1 a0 7) = 24 → M1.1 a0 = 15 ∧ zC G yX15_isLine cX15_isLine 2 (some .boolean) rm_X15_isLine M1 [.ref a0, .int x1] (fun M2 v => ∃ r3 : Int32, v = some (.int r3) ∧ (r3 = 0 → X.q M2 (some (.int (-1)))) ∧ (¬ r3 = 0 → zC G yX15_in cX15_in 3 (some .boolean) rm_X15_in M2 [.int x2, .int 1, .int 255] (fun M4 v => ∃ r5 : Int32, v = some (.int r5) ∧ (¬ r5 = 0 → M4.1 a0 = 15 ∧ ∃ b6 : Nat, M4.2.2.2 a0 5 = some b6 ∧ M4.1 b6 = 100 ∧ vp_in x1 (M4.2.1 b6) ∧ ∀ y7 : Int32, y7 = ((256 * (M4.2.2.1 b6 x1.toNatClampNeg)) + x2) → zW G X 5 M4 n k 51 [(0, .ref a0), (1, .int x1), (3, .int y7), (4, .int 0)] []) ∧ (r5 = 0 → X.q M4 (some (.int (-1))))))))) : zW G X 5 M n k 0 [(0, .ref a0), (1, .int x1), (2, .int x2)] [] := by
  refine z_aload_n O dX15_device_0 rfl 0 rfl ?_
  refine z_iconst (v := 0) O dX15_device_1 rfl ?_
  obtain ⟨hk, h⟩ := h
  refine z_puti O zp_X15_93_14 dX15_device_2 hk ?_
  generalize eM1 : zi M a0 0 0 = M1
  replace h := h M1 eM1.symm
  refine z_aload_n O dX15_device_5 rfl 0 rfl ?_
  obtain ⟨hk, h⟩ := h
  refine z_geti O zf_X15_139_14 dX15_device_6 hk ?_
  refine z_bipush (v := 24) O dX15_device_9 rfl ?_
  refine z_icmp_eq O 33 dX15_device_11 (by decide) (fun c => ?_) (fun c => ?_)
  · replace h := h.1 c
    refine z_iconst (v := (-1)) O dX15_device_33 rfl ?_
    exact z_iret O dX15_device_34 h
  · replace h := h.2 c
    refine z_aload_n O dX15_device_14 rfl 0 rfl ?_
    refine z_iload_n O dX15_device_15 rfl 1 rfl ?_
    obtain ⟨hk, h⟩ := h
    refine z_callV0 (As := [.int x1]) O zc_X15_399 h hk rfl (zRm_of hR (by decide) (by decide)) (Nat.le_of_ble_eq_true rfl) dX15_device_16 rfl rfl rfl (fun M2 v h => ?_)
    obtain ⟨r3, rfl, h⟩ := h
    refine z_if_eq O 33 dX15_device_19 (by decide) (fun c => ?_) (fun c => ?_)
    · replace h := h.1 c
      refine z_iconst (v := (-1)) O dX15_device_33 rfl ?_
      exact z_iret O dX15_device_34 h
    · replace h := h.2 c
      refine z_iload_n O dX15_device_22 rfl 2 rfl ?_
      refine z_iconst (v := 1) O dX15_device_23 rfl ?_
      refine z_sipush (v := 255) O dX15_device_24 rfl ?_
      refine z_callS0 (As := [.int x2, .int 1, .int 255]) O zc_X15_135 h rfl (zRm_of hR (by decide) (by decide)) (Nat.le_of_ble_eq_true rfl) dX15_device_27 rfl rfl rfl (fun M4 v h => ?_)
      obtain ⟨r5, rfl, h⟩ := h
      refine z_if_ne O 35 dX15_device_30 (by decide) (fun c => ?_) (fun c => ?_)
      · replace h := h.1 c
        refine z_sipush (v := 256) O dX15_device_35 rfl ?_
        refine z_aload_n O dX15_device_38 rfl 0 rfl ?_
        obtain ⟨hk, b6, hr, h⟩ := h
        refine z_getr O zf_X15_7_14 dX15_device_39 hk hr ?_
        refine z_iload_n O dX15_device_42 rfl 1 rfl ?_
        obtain ⟨hk, hi, h⟩ := h
        refine z_iald O dX15_device_43 hk hi ?_
        refine z_imul O dX15_device_44 ?_
        refine z_iload_n O dX15_device_45 rfl 2 rfl ?_
        refine z_iadd O dX15_device_46 ?_
        refine z_topi (fun y7 ey7 => ?_)
        replace h := h y7 ey7
        refine z_istore_n (lv' := [(3, .int y7), (0, .ref a0), (1, .int x1), (2, .int x2)]) O dX15_device_47 rfl (by decide) rfl ?_
        refine z_iconst (v := 0) O dX15_device_48 rfl ?_
        refine z_istore (lv' := [(4, .int 0), (3, .int y7), (0, .ref a0), (1, .int x1), (2, .int x2)]) O dX15_device_49 (by decide) rfl ?_
        exact z_to [2, 3, 1, 0] rfl h
      · replace h := h.2 c
        refine z_iconst (v := (-1)) O dX15_device_33 rfl ?_
        exact z_iret O dX15_device_34 h
set_option maxRecDepth 100000 in
set_option maxHeartbeats 4000000 in
theorem b_X15_device_51 {G : zG} {X : zX} (O : zOK G X cX15_device 5 RX15 (some .int) "device") (hR : X.R = rm_X15_device) {M : zM} {n k : Nat} {a0 : Nat} {x1 : Int32} {x3 : Int32} {x4 : Int32} (h : M.1 a0 = 15 ∧ ((M.2.2.1 a0 7) ≤ x4 → M.1 a0 = 15 ∧ ∃ b1 : Nat, M.2.2.2 a0 8 = some b1 ∧ M.1 a0 = 15 ∧ M.1 b1 = 110 ∧ vp_in ((M.2.2.1 a0 7)) (M.2.1 b1) ∧ ∃ b2 : Nat, M.2.2.2 b1 ((M.2.2.1 a0 7)).toNatClampNeg = some b2 ∧ M.1 b2 = 13 ∧ ∀ M3 : zM, M3 = zi M b2 0 x1 → M3.1 a0 = 15 ∧ ∃ b4 : Nat, M3.2.2.2 a0 8 = some b4 ∧ M3.1 a0 = 15 ∧ M3.1 b4 = 110 ∧ vp_in ((M3.2.2.1 a0 7)) (M3.2.1 b4) ∧ ∃ b5 : Nat, M3.2.2.2 b4 ((M3.2.2.1 a0 7)).toNatClampNeg = some b5 ∧ M3.1 b5 = 13 ∧ ∀ M6 : zM, M6 = zi M3 b5 1 x3 → M6.1 a0 = 15 ∧ M6.1 a0 = 15 ∧ ∀ M7 : zM, M7 = zi M6 a0 7 ((M6.2.2.1 a0 7) + 1) → M7.1 a0 = 15 ∧ X.q M7 (some (.int ((M7.2.2.1 a0 7) - 1)))) ∧ (¬ (M.2.2.1 a0 7) ≤ x4 → M.1 a0 = 15 ∧ ∃ b8 : Nat, M.2.2.2 a0 8 = some b8 ∧ M.1 b8 = 110 ∧ vp_in x4 (M.2.1 b8) ∧ ∃ b9 : Nat, M.2.2.2 b8 x4.toNatClampNeg = some b9 ∧ M.1 b9 = 13 ∧ (¬ (M.2.2.1 b9 1) = x3 → ∀ y10 : Int32, y10 = x4 + 1 → zW G X 5 M n k 51 [(0, .ref a0), (1, .int x1), (3, .int x3), (4, .int y10)] []) ∧ ((M.2.2.1 b9 1) = x3 → X.q M (some (.int (-1)))))) : zW G X 5 M n k 51 [(0, .ref a0), (1, .int x1), (3, .int x3), (4, .int x4)] [] := by
  refine z_iload O dX15_device_51 3 rfl ?_
  refine z_aload_n O dX15_device_53 rfl 0 rfl ?_
  obtain ⟨hk, h⟩ := h
  refine z_geti O zf_X15_139_14 dX15_device_54 hk ?_
  refine z_icmp_ge O 82 dX15_device_57 (by decide) (fun c => ?_) (fun c => ?_)
  · replace h := h.1 c
    refine z_aload_n O dX15_device_82 rfl 0 rfl ?_
    obtain ⟨hk, b1, hr, h⟩ := h
    refine z_getr O zf_X15_21_14 dX15_device_83 hk hr ?_
    refine z_aload_n O dX15_device_86 rfl 0 rfl ?_
    obtain ⟨hk, h⟩ := h
    refine z_geti O zf_X15_139_14 dX15_device_87 hk ?_
    obtain ⟨hk, hi, b2, hr, h⟩ := h
    refine z_ald (t := 8) O rfl dX15_device_90 hk hi hr ?_
    refine z_iload_n O dX15_device_91 rfl 1 rfl ?_
    obtain ⟨hk, h⟩ := h
    refine z_puti O zp_X15_271_12 dX15_device_92 hk ?_
    generalize eM3 : zi M b2 0 x1 = M3
    replace h := h M3 eM3.symm
    refine z_aload_n O dX15_device_95 rfl 0 rfl ?_
    obtain ⟨hk, b4, hr, h⟩ := h
    refine z_getr O zf_X15_21_14 dX15_device_96 hk hr ?_
    refine z_aload_n O dX15_device_99 rfl 0 rfl ?_
    obtain ⟨hk, h⟩ := h
    refine z_geti O zf_X15_139_14 dX15_device_100 hk ?_
    obtain ⟨hk, hi, b5, hr, h⟩ := h
    refine z_ald (t := 8) O rfl dX15_device_103 hk hi hr ?_
    refine z_iload_n O dX15_device_104 rfl 2 rfl ?_
    obtain ⟨hk, h⟩ := h
    refine z_puti O zp_X15_152_12 dX15_device_105 hk ?_
    generalize eM6 : zi M3 b5 1 x3 = M6
    replace h := h M6 eM6.symm
    refine z_aload_n O dX15_device_108 rfl 0 rfl ?_
    refine z_dup O dX15_device_109 rfl ?_
    obtain ⟨hk, h⟩ := h
    refine z_geti O zf_X15_139_14 dX15_device_110 hk ?_
    refine z_iconst (v := 1) O dX15_device_113 rfl ?_
    refine z_iadd O dX15_device_114 ?_
    obtain ⟨hk, h⟩ := h
    refine z_puti O zp_X15_139_14 dX15_device_115 hk ?_
    generalize eM7 : zi M6 a0 7 ((M6.2.2.1 a0 7) + 1) = M7
    replace h := h M7 eM7.symm
    refine z_aload_n O dX15_device_118 rfl 0 rfl ?_
    obtain ⟨hk, h⟩ := h
    refine z_geti O zf_X15_139_14 dX15_device_119 hk ?_
    refine z_iconst (v := 1) O dX15_device_122 rfl ?_
    refine z_isub O dX15_device_123 ?_
    exact z_iret O dX15_device_124 h
  · replace h := h.2 c
    refine z_aload_n O dX15_device_60 rfl 0 rfl ?_
    obtain ⟨hk, b8, hr, h⟩ := h
    refine z_getr O zf_X15_21_14 dX15_device_61 hk hr ?_
    refine z_iload O dX15_device_64 3 rfl ?_
    obtain ⟨hk, hi, b9, hr, h⟩ := h
    refine z_ald (t := 8) O rfl dX15_device_66 hk hi hr ?_
    obtain ⟨hk, h⟩ := h
    refine z_geti O zf_X15_152_12 dX15_device_67 hk ?_
    refine z_iload_n O dX15_device_70 rfl 2 rfl ?_
    refine z_icmp_ne O 76 dX15_device_71 (by decide) (fun c => ?_) (fun c => ?_)
    · replace h := h.1 c
      obtain ⟨y10, ey10⟩ : ∃ y : Int32, y = x4 + 1 := ⟨_, rfl⟩
      replace h := h y10 ey10
      refine z_iinc (v := y10) (lv' := [(4, .int y10), (0, .ref a0), (1, .int x1), (3, .int x3)]) O dX15_device_76 (q := 3) rfl (by rw [ey10]; rfl) (by decide) rfl ?_
      refine z_goto O 51 dX15_device_79 (by decide) ?_
      exact z_to [1, 2, 3, 0] rfl h
    · replace h := h.2 c
      refine z_iconst (v := (-1)) O dX15_device_74 rfl ?_
      exact z_iret O dX15_device_75 h
set_option maxRecDepth 100000 in
set_option maxHeartbeats 4000000 in
theorem b_X15_coupler_0 {G : zG} {X : zX} (O : zOK G X cX15_coupler 3 RX15 (some .int) "coupler") (hR : X.R = rm_X15_coupler) {M : zM} {n k : Nat} {a0 : Nat} {x1 : Int32} {x2 : Int32} (h : M.1 a0 = 15 ∧ ∀ M1 : zM, M1 = zi M a0 0 0 → M1.1 a0 = 15 ∧ ((M1.2.2.1 a0 9) = 5 → X.q M1 (some (.int (-1)))) ∧ (¬ (M1.2.2.1 a0 9) = 5 → M1.1 a0 = 15 ∧ zC G yX15_isLine cX15_isLine 2 (some .boolean) rm_X15_isLine M1 [.ref a0, .int x1] (fun M2 v => ∃ r3 : Int32, v = some (.int r3) ∧ (r3 = 0 → X.q M2 (some (.int (-1)))) ∧ (¬ r3 = 0 → M2.1 a0 = 15 ∧ zC G yX15_isLine cX15_isLine 2 (some .boolean) rm_X15_isLine M2 [.ref a0, .int x2] (fun M4 v => ∃ r5 : Int32, v = some (.int r5) ∧ (r5 = 0 → X.q M4 (some (.int (-1)))) ∧ (¬ r5 = 0 → M4.1 a0 = 15 ∧ zC G yX15_isJoined cX15_isJoined 9 (some .boolean) rm_X15_isJoined M4 [.ref a0, .int x1, .int x2, .int (-1)] (fun M6 v => ∃ r7 : Int32, v = some (.int r7) ∧ (r7 = 0 → M6.1 a0 = 15 ∧ ∃ b8 : Nat, M6.2.2.2 a0 10 = some b8 ∧ M6.1 a0 = 15 ∧ M6.1 b8 = 111 ∧ vp_in ((M6.2.2.1 a0 9)) (M6.2.1 b8) ∧ ∃ b9 : Nat, M6.2.2.2 b8 ((M6.2.2.1 a0 9)).toNatClampNeg = some b9 ∧ M6.1 b9 = 12 ∧ ∃ b10 : Nat, M6.2.2.2 b9 0 = some b10 ∧ M6.1 b10 = 100 ∧ vp_in (0 : Int32) (M6.2.1 b10) ∧ ∀ M11 : zM, M11 = zi M6 b10 ((0 : Int32).toNatClampNeg) x1 → M11.1 a0 = 15 ∧ ∃ b12 : Nat, M11.2.2.2 a0 10 = some b12 ∧ M11.1 a0 = 15 ∧ M11.1 b12 = 111 ∧ vp_in ((M11.2.2.1 a0 9)) (M11.2.1 b12) ∧ ∃ b13 : Nat, M11.2.2.2 b12 ((M11.2.2.1 a0 9)).toNatClampNeg = some b13 ∧ M11.1 b13 = 12 ∧ ∃ b14 : Nat, M11.2.2.2 b13 0 = some b14 ∧ M11.1 b14 = 100 ∧ vp_in (1 : Int32) (M11.2.1 b14) ∧ ∀ M15 : zM, M15 = zi M11 b14 ((1 : Int32).toNatClampNeg) x2 → M15.1 a0 = 15 ∧ M15.1 a0 = 15 ∧ ∀ M16 : zM, M16 = zi M15 a0 9 ((M15.2.2.1 a0 9) + 1) → M16.1 a0 = 15 ∧ X.q M16 (some (.int ((M16.2.2.1 a0 9) - 1)))) ∧ (¬ r7 = 0 → X.q M6 (some (.int (-1))))))))))) : zW G X 3 M n k 0 [(0, .ref a0), (1, .int x1), (2, .int x2)] [] := by
  refine z_aload_n O dX15_coupler_0 rfl 0 rfl ?_
  refine z_iconst (v := 0) O dX15_coupler_1 rfl ?_
  obtain ⟨hk, h⟩ := h
  refine z_puti O zp_X15_93_14 dX15_coupler_2 hk ?_
  generalize eM1 : zi M a0 0 0 = M1
  replace h := h M1 eM1.symm
  refine z_aload_n O dX15_coupler_5 rfl 0 rfl ?_
  obtain ⟨hk, h⟩ := h
  refine z_geti O zf_X15_142_14 dX15_coupler_6 hk ?_
  refine z_iconst (v := 5) O dX15_coupler_9 rfl ?_
  refine z_icmp_eq O 39 dX15_coupler_10 (by decide) (fun c => ?_) (fun c => ?_)
  · replace h := h.1 c
    refine z_iconst (v := (-1)) O dX15_coupler_39 rfl ?_
    exact z_iret O dX15_coupler_40 h
  · replace h := h.2 c
    refine z_aload_n O dX15_coupler_13 rfl 0 rfl ?_
    refine z_iload_n O dX15_coupler_14 rfl 1 rfl ?_
    obtain ⟨hk, h⟩ := h
    refine z_callV0 (As := [.int x1]) O zc_X15_399 h hk rfl (zRm_of hR (by decide) (by decide)) (Nat.le_of_ble_eq_true rfl) dX15_coupler_15 rfl rfl rfl (fun M2 v h => ?_)
    obtain ⟨r3, rfl, h⟩ := h
    refine z_if_eq O 39 dX15_coupler_18 (by decide) (fun c => ?_) (fun c => ?_)
    · replace h := h.1 c
      refine z_iconst (v := (-1)) O dX15_coupler_39 rfl ?_
      exact z_iret O dX15_coupler_40 h
    · replace h := h.2 c
      refine z_aload_n O dX15_coupler_21 rfl 0 rfl ?_
      refine z_iload_n O dX15_coupler_22 rfl 2 rfl ?_
      obtain ⟨hk, h⟩ := h
      refine z_callV0 (As := [.int x2]) O zc_X15_399 h hk rfl (zRm_of hR (by decide) (by decide)) (Nat.le_of_ble_eq_true rfl) dX15_coupler_23 rfl rfl rfl (fun M4 v h => ?_)
      obtain ⟨r5, rfl, h⟩ := h
      refine z_if_eq O 39 dX15_coupler_26 (by decide) (fun c => ?_) (fun c => ?_)
      · replace h := h.1 c
        refine z_iconst (v := (-1)) O dX15_coupler_39 rfl ?_
        exact z_iret O dX15_coupler_40 h
      · replace h := h.2 c
        refine z_aload_n O dX15_coupler_29 rfl 0 rfl ?_
        refine z_iload_n O dX15_coupler_30 rfl 1 rfl ?_
        refine z_iload_n O dX15_coupler_31 rfl 2 rfl ?_
        refine z_iconst (v := (-1)) O dX15_coupler_32 rfl ?_
        obtain ⟨hk, h⟩ := h
        refine z_callV0 (As := [.int x1, .int x2, .int (-1)]) O zc_X15_358 h hk rfl (zRm_of hR (by decide) (by decide)) (Nat.le_of_ble_eq_true rfl) dX15_coupler_33 rfl rfl rfl (fun M6 v h => ?_)
        obtain ⟨r7, rfl, h⟩ := h
        refine z_if_eq O 41 dX15_coupler_36 (by decide) (fun c => ?_) (fun c => ?_)
        · replace h := h.1 c
          refine z_aload_n O dX15_coupler_41 rfl 0 rfl ?_
          obtain ⟨hk, b8, hr, h⟩ := h
          refine z_getr O zf_X15_27_14 dX15_coupler_42 hk hr ?_
          refine z_aload_n O dX15_coupler_45 rfl 0 rfl ?_
          obtain ⟨hk, h⟩ := h
          refine z_geti O zf_X15_142_14 dX15_coupler_46 hk ?_
          obtain ⟨hk, hi, b9, hr, h⟩ := h
          refine z_ald (t := 9) O rfl dX15_coupler_49 hk hi hr ?_
          obtain ⟨hk, b10, hr, h⟩ := h
          refine z_getr O zf_X15_278_11 dX15_coupler_50 hk hr ?_
          refine z_iconst (v := 0) O dX15_coupler_53 rfl ?_
          refine z_iload_n O dX15_coupler_54 rfl 1 rfl ?_
          obtain ⟨hk, hi, h⟩ := h
          refine z_iast O dX15_coupler_55 hk hi ?_
          generalize eM11 : zi M6 b10 ((0 : Int32).toNatClampNeg) x1 = M11
          replace h := h M11 eM11.symm
          refine z_aload_n O dX15_coupler_56 rfl 0 rfl ?_
          obtain ⟨hk, b12, hr, h⟩ := h
          refine z_getr O zf_X15_27_14 dX15_coupler_57 hk hr ?_
          refine z_aload_n O dX15_coupler_60 rfl 0 rfl ?_
          obtain ⟨hk, h⟩ := h
          refine z_geti O zf_X15_142_14 dX15_coupler_61 hk ?_
          obtain ⟨hk, hi, b13, hr, h⟩ := h
          refine z_ald (t := 9) O rfl dX15_coupler_64 hk hi hr ?_
          obtain ⟨hk, b14, hr, h⟩ := h
          refine z_getr O zf_X15_278_11 dX15_coupler_65 hk hr ?_
          refine z_iconst (v := 1) O dX15_coupler_68 rfl ?_
          refine z_iload_n O dX15_coupler_69 rfl 2 rfl ?_
          obtain ⟨hk, hi, h⟩ := h
          refine z_iast O dX15_coupler_70 hk hi ?_
          generalize eM15 : zi M11 b14 ((1 : Int32).toNatClampNeg) x2 = M15
          replace h := h M15 eM15.symm
          refine z_aload_n O dX15_coupler_71 rfl 0 rfl ?_
          refine z_dup O dX15_coupler_72 rfl ?_
          obtain ⟨hk, h⟩ := h
          refine z_geti O zf_X15_142_14 dX15_coupler_73 hk ?_
          refine z_iconst (v := 1) O dX15_coupler_76 rfl ?_
          refine z_iadd O dX15_coupler_77 ?_
          obtain ⟨hk, h⟩ := h
          refine z_puti O zp_X15_142_14 dX15_coupler_78 hk ?_
          generalize eM16 : zi M15 a0 9 ((M15.2.2.1 a0 9) + 1) = M16
          replace h := h M16 eM16.symm
          refine z_aload_n O dX15_coupler_81 rfl 0 rfl ?_
          obtain ⟨hk, h⟩ := h
          refine z_geti O zf_X15_142_14 dX15_coupler_82 hk ?_
          refine z_iconst (v := 1) O dX15_coupler_85 rfl ?_
          refine z_isub O dX15_coupler_86 ?_
          exact z_iret O dX15_coupler_87 h
        · replace h := h.2 c
          refine z_iconst (v := (-1)) O dX15_coupler_39 rfl ?_
          exact z_iret O dX15_coupler_40 h
set_option maxRecDepth 100000 in
set_option maxHeartbeats 4000000 in
theorem b_X15_mode_0 {G : zG} {X : zX} (O : zOK G X cX15_mode 3 RX15 (some .boolean) "mode") (hR : X.R = rm_X15_mode) {M : zM} {n k : Nat} {a0 : Nat} {x1 : Int32} {x2 : Int32} (h : M.1 a0 = 15 ∧ ∀ M1 : zM, M1 = zi M a0 0 0 → M1.1 a0 = 15 ∧ zC G yX15_isCoupler cX15_isCoupler 2 (some .boolean) rm_X15_isCoupler M1 [.ref a0, .int x1] (fun M2 v => ∃ r3 : Int32, v = some (.int r3) ∧ (r3 = 0 → X.q M2 (some (.int 0))) ∧ (¬ r3 = 0 → zC G yX15_in cX15_in 3 (some .boolean) rm_X15_in M2 [.int x2, .int 0, .int 2] (fun M4 v => ∃ r5 : Int32, v = some (.int r5) ∧ (¬ r5 = 0 → M4.1 a0 = 15 ∧ ∃ b6 : Nat, M4.2.2.2 a0 10 = some b6 ∧ M4.1 b6 = 111 ∧ vp_in x1 (M4.2.1 b6) ∧ ∃ b7 : Nat, M4.2.2.2 b6 x1.toNatClampNeg = some b7 ∧ M4.1 b7 = 12 ∧ ∀ M8 : zM, M8 = zi M4 b7 1 x2 → X.q M8 (some (.int 1))) ∧ (r5 = 0 → X.q M4 (some (.int 0))))))) : zW G X 3 M n k 0 [(0, .ref a0), (1, .int x1), (2, .int x2)] [] := by
  refine z_aload_n O dX15_mode_0 rfl 0 rfl ?_
  refine z_iconst (v := 0) O dX15_mode_1 rfl ?_
  obtain ⟨hk, h⟩ := h
  refine z_puti O zp_X15_93_14 dX15_mode_2 hk ?_
  generalize eM1 : zi M a0 0 0 = M1
  replace h := h M1 eM1.symm
  refine z_aload_n O dX15_mode_5 rfl 0 rfl ?_
  refine z_iload_n O dX15_mode_6 rfl 1 rfl ?_
  obtain ⟨hk, h⟩ := h
  refine z_callV0 (As := [.int x1]) O zc_X15_402 h hk rfl (zRm_of hR (by decide) (by decide)) (Nat.le_of_ble_eq_true rfl) dX15_mode_7 rfl rfl rfl (fun M2 v h => ?_)
  obtain ⟨r3, rfl, h⟩ := h
  refine z_if_eq O 22 dX15_mode_10 (by decide) (fun c => ?_) (fun c => ?_)
  · replace h := h.1 c
    refine z_iconst (v := 0) O dX15_mode_22 rfl ?_
    exact z_zret O dX15_mode_23 (by decide) h
  · replace h := h.2 c
    refine z_iload_n O dX15_mode_13 rfl 2 rfl ?_
    refine z_iconst (v := 0) O dX15_mode_14 rfl ?_
    refine z_iconst (v := 2) O dX15_mode_15 rfl ?_
    refine z_callS0 (As := [.int x2, .int 0, .int 2]) O zc_X15_135 h rfl (zRm_of hR (by decide) (by decide)) (Nat.le_of_ble_eq_true rfl) dX15_mode_16 rfl rfl rfl (fun M4 v h => ?_)
    obtain ⟨r5, rfl, h⟩ := h
    refine z_if_ne O 24 dX15_mode_19 (by decide) (fun c => ?_) (fun c => ?_)
    · replace h := h.1 c
      refine z_aload_n O dX15_mode_24 rfl 0 rfl ?_
      obtain ⟨hk, b6, hr, h⟩ := h
      refine z_getr O zf_X15_27_14 dX15_mode_25 hk hr ?_
      refine z_iload_n O dX15_mode_28 rfl 1 rfl ?_
      obtain ⟨hk, hi, b7, hr, h⟩ := h
      refine z_ald (t := 9) O rfl dX15_mode_29 hk hi hr ?_
      refine z_iload_n O dX15_mode_30 rfl 2 rfl ?_
      obtain ⟨hk, h⟩ := h
      refine z_puti O zp_X15_352_11 dX15_mode_31 hk ?_
      generalize eM8 : zi M4 b7 1 x2 = M8
      replace h := h M8 eM8.symm
      refine z_iconst (v := 1) O dX15_mode_34 rfl ?_
      exact z_zret O dX15_mode_35 (by decide) h
    · replace h := h.2 c
      refine z_iconst (v := 0) O dX15_mode_22 rfl ?_
      exact z_zret O dX15_mode_23 (by decide) h
set_option maxRecDepth 100000 in
set_option maxHeartbeats 4000000 in
theorem b_X15_filter_0 {G : zG} {X : zX} (O : zOK G X cX15_filter 6 RX15 (some .boolean) "filter") (hR : X.R = rm_X15_filter) {M : zM} {n k : Nat} {a0 : Nat} {x1 : Int32} {x2 : Int32} {x3 : Int32} (h : M.1 a0 = 15 ∧ ∀ M1 : zM, M1 = zi M a0 0 0 → M1.1 a0 = 15 ∧ zC G yX15_isCoupler cX15_isCoupler 2 (some .boolean) rm_X15_isCoupler M1 [.ref a0, .int x1] (fun M2 v => ∃ r3 : Int32, v = some (.int r3) ∧ (r3 = 0 → X.q M2 (some (.int 0))) ∧ (¬ r3 = 0 → zC G yX15_in cX15_in 3 (some .boolean) rm_X15_in M2 [.int x2, .int 1, .int 65535] (fun M4 v => ∃ r5 : Int32, v = some (.int r5) ∧ (¬ r5 = 0 → M4.1 a0 = 15 ∧ ∃ b6 : Nat, M4.2.2.2 a0 10 = some b6 ∧ M4.1 b6 = 111 ∧ vp_in x1 (M4.2.1 b6) ∧ ∃ b7 : Nat, M4.2.2.2 b6 x1.toNatClampNeg = some b7 ∧ zW G X 6 M4 n k 37 [(2, .int x2), (3, .int x3), (4, .ref b7), (5, .int 0)] []) ∧ (r5 = 0 → X.q M4 (some (.int 0))))))) : zW G X 6 M n k 0 [(0, .ref a0), (1, .int x1), (2, .int x2), (3, .int x3)] [] := by
  refine z_aload_n O dX15_filter_0 rfl 0 rfl ?_
  refine z_iconst (v := 0) O dX15_filter_1 rfl ?_
  obtain ⟨hk, h⟩ := h
  refine z_puti O zp_X15_93_14 dX15_filter_2 hk ?_
  generalize eM1 : zi M a0 0 0 = M1
  replace h := h M1 eM1.symm
  refine z_aload_n O dX15_filter_5 rfl 0 rfl ?_
  refine z_iload_n O dX15_filter_6 rfl 1 rfl ?_
  obtain ⟨hk, h⟩ := h
  refine z_callV0 (As := [.int x1]) O zc_X15_402 h hk rfl (zRm_of hR (by decide) (by decide)) (Nat.le_of_ble_eq_true rfl) dX15_filter_7 rfl rfl rfl (fun M2 v h => ?_)
  obtain ⟨r3, rfl, h⟩ := h
  refine z_if_eq O 24 dX15_filter_10 (by decide) (fun c => ?_) (fun c => ?_)
  · replace h := h.1 c
    refine z_iconst (v := 0) O dX15_filter_24 rfl ?_
    exact z_zret O dX15_filter_25 (by decide) h
  · replace h := h.2 c
    refine z_iload_n O dX15_filter_13 rfl 2 rfl ?_
    refine z_iconst (v := 1) O dX15_filter_14 rfl ?_
    refine z_ldc_w O dX15_filter_15 zk_X15_405 ?_
    refine z_callS0 (As := [.int x2, .int 1, .int 65535]) O zc_X15_135 h rfl (zRm_of hR (by decide) (by decide)) (Nat.le_of_ble_eq_true rfl) dX15_filter_18 rfl rfl rfl (fun M4 v h => ?_)
    obtain ⟨r5, rfl, h⟩ := h
    refine z_if_ne O 26 dX15_filter_21 (by decide) (fun c => ?_) (fun c => ?_)
    · replace h := h.1 c
      refine z_aload_n O dX15_filter_26 rfl 0 rfl ?_
      obtain ⟨hk, b6, hr, h⟩ := h
      refine z_getr O zf_X15_27_14 dX15_filter_27 hk hr ?_
      refine z_iload_n O dX15_filter_30 rfl 1 rfl ?_
      obtain ⟨hk, hi, b7, hr, h⟩ := h
      refine z_ald (t := 9) O rfl dX15_filter_31 hk hi hr ?_
      refine z_astore (lv' := [(4, .ref b7), (0, .ref a0), (1, .int x1), (2, .int x2), (3, .int x3)]) O dX15_filter_32 (by decide) rfl ?_
      refine z_iconst (v := 0) O dX15_filter_34 rfl ?_
      refine z_istore (lv' := [(5, .int 0), (4, .ref b7), (0, .ref a0), (1, .int x1), (2, .int x2), (3, .int x3)]) O dX15_filter_35 (by decide) rfl ?_
      exact z_to [4, 5, 1, 0] rfl h
    · replace h := h.2 c
      refine z_iconst (v := 0) O dX15_filter_24 rfl ?_
      exact z_zret O dX15_filter_25 (by decide) h
set_option maxRecDepth 100000 in
set_option maxHeartbeats 4000000 in
theorem b_X15_filter_37 {G : zG} {X : zX} (O : zOK G X cX15_filter 6 RX15 (some .boolean) "filter") (hR : X.R = rm_X15_filter) {M : zM} {n k : Nat} {x2 : Int32} {x3 : Int32} {a4 : Nat} {x5 : Int32} (h : M.1 a4 = 12 ∧ ((M.2.2.1 a4 3) ≤ x5 → zW G X 6 M n k 65 [(2, .int x2), (3, .int x3), (4, .ref a4), (5, .int x5)] []) ∧ (¬ (M.2.2.1 a4 3) ≤ x5 → M.1 a4 = 12 ∧ ∃ b1 : Nat, M.2.2.2 a4 2 = some b1 ∧ M.1 b1 = 100 ∧ vp_in x5 (M.2.1 b1) ∧ ((M.2.2.1 b1 x5.toNatClampNeg) = x2 → zW G X 6 M n k 65 [(2, .int x2), (3, .int x3), (4, .ref a4), (5, .int x5)] []) ∧ (¬ (M.2.2.1 b1 x5.toNatClampNeg) = x2 → ∀ y2 : Int32, y2 = x5 + 1 → zW G X 6 M n k 37 [(2, .int x2), (3, .int x3), (4, .ref a4), (5, .int y2)] []))) : zW G X 6 M n k 37 [(2, .int x2), (3, .int x3), (4, .ref a4), (5, .int x5)] [] := by
  refine z_iload O dX15_filter_37 3 rfl ?_
  refine z_aload O dX15_filter_39 2 rfl ?_
  obtain ⟨hk, h⟩ := h
  refine z_geti O zf_X15_346_11 dX15_filter_41 hk ?_
  refine z_icmp_ge O 65 dX15_filter_44 (by decide) (fun c => ?_) (fun c => ?_)
  · replace h := h.1 c
    exact h
  · replace h := h.2 c
    refine z_aload O dX15_filter_47 2 rfl ?_
    obtain ⟨hk, b1, hr, h⟩ := h
    refine z_getr O zf_X15_349_11 dX15_filter_49 hk hr ?_
    refine z_iload O dX15_filter_52 3 rfl ?_
    obtain ⟨hk, hi, h⟩ := h
    refine z_iald O dX15_filter_54 hk hi ?_
    refine z_iload_n O dX15_filter_55 rfl 0 rfl ?_
    refine z_icmp_eq O 65 dX15_filter_56 (by decide) (fun c => ?_) (fun c => ?_)
    · replace h := h.1 c
      exact h
    · replace h := h.2 c
      obtain ⟨y2, ey2⟩ : ∃ y : Int32, y = x5 + 1 := ⟨_, rfl⟩
      replace h := h y2 ey2
      refine z_iinc (v := y2) (lv' := [(5, .int y2), (2, .int x2), (3, .int x3), (4, .ref a4)]) O dX15_filter_59 (q := 3) rfl (by rw [ey2]; rfl) (by decide) rfl ?_
      refine z_goto O 37 dX15_filter_62 (by decide) ?_
      exact z_to [1, 2, 3, 0] rfl h
set_option maxRecDepth 100000 in
set_option maxHeartbeats 4000000 in
theorem b_X15_filter_65 {G : zG} {X : zX} (O : zOK G X cX15_filter 6 RX15 (some .boolean) "filter") (hR : X.R = rm_X15_filter) {M : zM} {n k : Nat} {x2 : Int32} {x3 : Int32} {a4 : Nat} {x5 : Int32} (h : M.1 a4 = 12 ∧ ((M.2.2.1 a4 3) ≤ x5 → (¬ x3 = 0 → M.1 a4 = 12 ∧ (¬ (M.2.2.1 a4 3) = 64 → M.1 a4 = 12 ∧ ∃ b1 : Nat, M.2.2.2 a4 2 = some b1 ∧ M.1 a4 = 12 ∧ M.1 b1 = 100 ∧ vp_in ((M.2.2.1 a4 3)) (M.2.1 b1) ∧ ∀ M2 : zM, M2 = zi M b1 (((M.2.2.1 a4 3)).toNatClampNeg) x2 → M2.1 a4 = 12 ∧ M2.1 a4 = 12 ∧ ∀ M3 : zM, M3 = zi M2 a4 3 ((M2.2.2.1 a4 3) + 1) → X.q M3 (some (.int 1))) ∧ ((M.2.2.1 a4 3) = 64 → X.q M (some (.int 0)))) ∧ (x3 = 0 → X.q M (some (.int 1)))) ∧ (¬ (M.2.2.1 a4 3) ≤ x5 → (¬ x3 = 0 → X.q M (some (.int 1))) ∧ (x3 = 0 → M.1 a4 = 12 ∧ M.1 a4 = 12 ∧ ∀ M4 : zM, M4 = zi M a4 3 ((M.2.2.1 a4 3) - 1) → M4.1 a4 = 12 ∧ ∃ b5 : Nat, M4.2.2.2 a4 2 = some b5 ∧ M4.1 a4 = 12 ∧ ∃ b6 : Nat, M4.2.2.2 a4 2 = some b6 ∧ M4.1 a4 = 12 ∧ M4.1 b6 = 100 ∧ vp_in ((M4.2.2.1 a4 3)) (M4.2.1 b6) ∧ M4.1 b5 = 100 ∧ vp_in x5 (M4.2.1 b5) ∧ ∀ M7 : zM, M7 = zi M4 b5 (x5.toNatClampNeg) (M4.2.2.1 b6 ((M4.2.2.1 a4 3)).toNatClampNeg) → X.q M7 (some (.int 1))))) : zW G X 6 M n k 65 [(2, .int x2), (3, .int x3), (4, .ref a4), (5, .int x5)] [] := by
  refine z_iload O dX15_filter_65 3 rfl ?_
  refine z_aload O dX15_filter_67 2 rfl ?_
  obtain ⟨hk, h⟩ := h
  refine z_geti O zf_X15_346_11 dX15_filter_69 hk ?_
  refine z_icmp_ge O 111 dX15_filter_72 (by decide) (fun c => ?_) (fun c => ?_)
  · replace h := h.1 c
    refine z_iload_n O dX15_filter_111 rfl 1 rfl ?_
    refine z_if_ne O 117 dX15_filter_112 (by decide) (fun c => ?_) (fun c => ?_)
    · replace h := h.1 c
      refine z_aload O dX15_filter_117 2 rfl ?_
      obtain ⟨hk, h⟩ := h
      refine z_geti O zf_X15_346_11 dX15_filter_119 hk ?_
      refine z_bipush (v := 64) O dX15_filter_122 rfl ?_
      refine z_icmp_ne O 129 dX15_filter_124 (by decide) (fun c => ?_) (fun c => ?_)
      · replace h := h.1 c
        refine z_aload O dX15_filter_129 2 rfl ?_
        obtain ⟨hk, b1, hr, h⟩ := h
        refine z_getr O zf_X15_349_11 dX15_filter_131 hk hr ?_
        refine z_aload O dX15_filter_134 2 rfl ?_
        obtain ⟨hk, h⟩ := h
        refine z_geti O zf_X15_346_11 dX15_filter_136 hk ?_
        refine z_iload_n O dX15_filter_139 rfl 0 rfl ?_
        obtain ⟨hk, hi, h⟩ := h
        refine z_iast O dX15_filter_140 hk hi ?_
        generalize eM2 : zi M b1 (((M.2.2.1 a4 3)).toNatClampNeg) x2 = M2
        replace h := h M2 eM2.symm
        refine z_aload O dX15_filter_141 2 rfl ?_
        refine z_dup O dX15_filter_143 rfl ?_
        obtain ⟨hk, h⟩ := h
        refine z_geti O zf_X15_346_11 dX15_filter_144 hk ?_
        refine z_iconst (v := 1) O dX15_filter_147 rfl ?_
        refine z_iadd O dX15_filter_148 ?_
        obtain ⟨hk, h⟩ := h
        refine z_puti O zp_X15_346_11 dX15_filter_149 hk ?_
        generalize eM3 : zi M2 a4 3 ((M2.2.2.1 a4 3) + 1) = M3
        replace h := h M3 eM3.symm
        refine z_iconst (v := 1) O dX15_filter_152 rfl ?_
        exact z_zret O dX15_filter_153 (by decide) h
      · replace h := h.2 c
        refine z_iconst (v := 0) O dX15_filter_127 rfl ?_
        exact z_zret O dX15_filter_128 (by decide) h
    · replace h := h.2 c
      refine z_iconst (v := 1) O dX15_filter_115 rfl ?_
      exact z_zret O dX15_filter_116 (by decide) h
  · replace h := h.2 c
    refine z_iload_n O dX15_filter_75 rfl 1 rfl ?_
    refine z_if_ne O 109 dX15_filter_76 (by decide) (fun c => ?_) (fun c => ?_)
    · replace h := h.1 c
      refine z_iconst (v := 1) O dX15_filter_109 rfl ?_
      exact z_zret O dX15_filter_110 (by decide) h
    · replace h := h.2 c
      refine z_aload O dX15_filter_79 2 rfl ?_
      refine z_dup O dX15_filter_81 rfl ?_
      obtain ⟨hk, h⟩ := h
      refine z_geti O zf_X15_346_11 dX15_filter_82 hk ?_
      refine z_iconst (v := 1) O dX15_filter_85 rfl ?_
      refine z_isub O dX15_filter_86 ?_
      obtain ⟨hk, h⟩ := h
      refine z_puti O zp_X15_346_11 dX15_filter_87 hk ?_
      generalize eM4 : zi M a4 3 ((M.2.2.1 a4 3) - 1) = M4
      replace h := h M4 eM4.symm
      refine z_aload O dX15_filter_90 2 rfl ?_
      obtain ⟨hk, b5, hr, h⟩ := h
      refine z_getr O zf_X15_349_11 dX15_filter_92 hk hr ?_
      refine z_iload O dX15_filter_95 3 rfl ?_
      refine z_aload O dX15_filter_97 2 rfl ?_
      obtain ⟨hk, b6, hr, h⟩ := h
      refine z_getr O zf_X15_349_11 dX15_filter_99 hk hr ?_
      refine z_aload O dX15_filter_102 2 rfl ?_
      obtain ⟨hk, h⟩ := h
      refine z_geti O zf_X15_346_11 dX15_filter_104 hk ?_
      obtain ⟨hk, hi, h⟩ := h
      refine z_iald O dX15_filter_107 hk hi ?_
      obtain ⟨hk, hi, h⟩ := h
      refine z_iast O dX15_filter_108 hk hi ?_
      generalize eM7 : zi M4 b5 (x5.toNatClampNeg) (M4.2.2.1 b6 ((M4.2.2.1 a4 3)).toNatClampNeg) = M7
      replace h := h M7 eM7.symm
      refine z_iconst (v := 1) O dX15_filter_109 rfl ?_
      exact z_zret O dX15_filter_110 (by decide) h
set_option maxRecDepth 100000 in
set_option maxHeartbeats 4000000 in
theorem b_X15_object_0 {G : zG} {X : zX} (O : zOK G X cX15_object 6 RX15 (some .int) "object") (hR : X.R = rm_X15_object) {M : zM} {n k : Nat} {a0 : Nat} {x1 : Int32} {x2 : Int32} {x3 : Int32} {x4 : Int32} (h : M.1 a0 = 15 ∧ ∀ M1 : zM, M1 = zi M a0 0 0 → M1.1 a0 = 15 ∧ zC G yX15_isDevice cX15_isDevice 2 (some .boolean) rm_X15_isDevice M1 [.ref a0, .int x1] (fun M2 v => ∃ r3 : Int32, v = some (.int r3) ∧ (r3 = 0 → X.q M2 (some (.int (-1)))) ∧ (¬ r3 = 0 → zC G yX15_in cX15_in 3 (some .boolean) rm_X15_in M2 [.int x2, .int 0, .int 7] (fun M4 v => ∃ r5 : Int32, v = some (.int r5) ∧ (r5 = 0 → X.q M4 (some (.int (-1)))) ∧ (¬ r5 = 0 → zC G yX15_in cX15_in 3 (some .boolean) rm_X15_in M4 [.int x3, .int 0, .int 31] (fun M6 v => ∃ r7 : Int32, v = some (.int r7) ∧ (r7 = 0 → X.q M6 (some (.int (-1)))) ∧ (¬ r7 = 0 → zC G yX15_in cX15_in 3 (some .boolean) rm_X15_in M6 [.int x4, .int 0, .int 3] (fun M8 v => ∃ r9 : Int32, v = some (.int r9) ∧ (r9 = 0 → X.q M8 (some (.int (-1)))) ∧ (¬ r9 = 0 → M8.1 a0 = 15 ∧ ∃ b10 : Nat, M8.2.2.2 a0 8 = some b10 ∧ M8.1 b10 = 110 ∧ vp_in x1 (M8.2.1 b10) ∧ ∃ b11 : Nat, M8.2.2.2 b10 x1.toNatClampNeg = some b11 ∧ M8.1 b11 = 13 ∧ (¬ (M8.2.2.1 b11 6) = 12 → M8.1 a0 = 15 ∧ ∃ b12 : Nat, M8.2.2.2 a0 8 = some b12 ∧ M8.1 b12 = 110 ∧ vp_in x1 (M8.2.1 b12) ∧ ∃ b13 : Nat, M8.2.2.2 b12 x1.toNatClampNeg = some b13 ∧ M8.1 b13 = 13 ∧ ∃ b14 : Nat, M8.2.2.2 b13 7 = some b14 ∧ M8.1 b13 = 13 ∧ False) ∧ ((M8.2.2.1 b11 6) = 12 → X.q M8 (some (.int (-1))))))))))))) : zW G X 6 M n k 0 [(0, .ref a0), (1, .int x1), (2, .int x2), (3, .int x3), (4, .int x4)] [] := by
  refine z_aload_n O dX15_object_0 rfl 0 rfl ?_
  refine z_iconst (v := 0) O dX15_object_1 rfl ?_
  obtain ⟨hk, h⟩ := h
  refine z_puti O zp_X15_93_14 dX15_object_2 hk ?_
  generalize eM1 : zi M a0 0 0 = M1
  replace h := h M1 eM1.symm
  refine z_aload_n O dX15_object_5 rfl 0 rfl ?_
  refine z_iload_n O dX15_object_6 rfl 1 rfl ?_
  obtain ⟨hk, h⟩ := h
  refine z_callV0 (As := [.int x1]) O zc_X15_145 h hk rfl (zRm_of hR (by decide) (by decide)) (Nat.le_of_ble_eq_true rfl) dX15_object_7 rfl rfl rfl (fun M2 v h => ?_)
  obtain ⟨r3, rfl, h⟩ := h
  refine z_if_eq O 57 dX15_object_10 (by decide) (fun c => ?_) (fun c => ?_)
  · replace h := h.1 c
    refine z_iconst (v := (-1)) O dX15_object_57 rfl ?_
    exact z_iret O dX15_object_58 h
  · replace h := h.2 c
    refine z_iload_n O dX15_object_13 rfl 2 rfl ?_
    refine z_iconst (v := 0) O dX15_object_14 rfl ?_
    refine z_bipush (v := 7) O dX15_object_15 rfl ?_
    refine z_callS0 (As := [.int x2, .int 0, .int 7]) O zc_X15_135 h rfl (zRm_of hR (by decide) (by decide)) (Nat.le_of_ble_eq_true rfl) dX15_object_17 rfl rfl rfl (fun M4 v h => ?_)
    obtain ⟨r5, rfl, h⟩ := h
    refine z_if_eq O 57 dX15_object_20 (by decide) (fun c => ?_) (fun c => ?_)
    · replace h := h.1 c
      refine z_iconst (v := (-1)) O dX15_object_57 rfl ?_
      exact z_iret O dX15_object_58 h
    · replace h := h.2 c
      refine z_iload_n O dX15_object_23 rfl 3 rfl ?_
      refine z_iconst (v := 0) O dX15_object_24 rfl ?_
      refine z_bipush (v := 31) O dX15_object_25 rfl ?_
      refine z_callS0 (As := [.int x3, .int 0, .int 31]) O zc_X15_135 h rfl (zRm_of hR (by decide) (by decide)) (Nat.le_of_ble_eq_true rfl) dX15_object_27 rfl rfl rfl (fun M6 v h => ?_)
      obtain ⟨r7, rfl, h⟩ := h
      refine z_if_eq O 57 dX15_object_30 (by decide) (fun c => ?_) (fun c => ?_)
      · replace h := h.1 c
        refine z_iconst (v := (-1)) O dX15_object_57 rfl ?_
        exact z_iret O dX15_object_58 h
      · replace h := h.2 c
        refine z_iload O dX15_object_33 4 rfl ?_
        refine z_iconst (v := 0) O dX15_object_35 rfl ?_
        refine z_iconst (v := 3) O dX15_object_36 rfl ?_
        refine z_callS0 (As := [.int x4, .int 0, .int 3]) O zc_X15_135 h rfl (zRm_of hR (by decide) (by decide)) (Nat.le_of_ble_eq_true rfl) dX15_object_37 rfl rfl rfl (fun M8 v h => ?_)
        obtain ⟨r9, rfl, h⟩ := h
        refine z_if_eq O 57 dX15_object_40 (by decide) (fun c => ?_) (fun c => ?_)
        · replace h := h.1 c
          refine z_iconst (v := (-1)) O dX15_object_57 rfl ?_
          exact z_iret O dX15_object_58 h
        · replace h := h.2 c
          refine z_aload_n O dX15_object_43 rfl 0 rfl ?_
          obtain ⟨hk, b10, hr, h⟩ := h
          refine z_getr O zf_X15_21_14 dX15_object_44 hk hr ?_
          refine z_iload_n O dX15_object_47 rfl 1 rfl ?_
          obtain ⟨hk, hi, b11, hr, h⟩ := h
          refine z_ald (t := 8) O rfl dX15_object_48 hk hi hr ?_
          obtain ⟨hk, h⟩ := h
          refine z_geti O zf_X15_149_12 dX15_object_49 hk ?_
          refine z_bipush (v := 12) O dX15_object_52 rfl ?_
          refine z_icmp_ne O 59 dX15_object_54 (by decide) (fun c => ?_) (fun c => ?_)
          · replace h := h.1 c
            refine z_aload_n O dX15_object_59 rfl 0 rfl ?_
            obtain ⟨hk, b12, hr, h⟩ := h
            refine z_getr O zf_X15_21_14 dX15_object_60 hk hr ?_
            refine z_iload_n O dX15_object_63 rfl 1 rfl ?_
            obtain ⟨hk, hi, b13, hr, h⟩ := h
            refine z_ald (t := 8) O rfl dX15_object_64 hk hi hr ?_
            refine z_astore (lv' := [(5, .ref b13), (0, .ref a0), (1, .int x1), (2, .int x2), (3, .int x3), (4, .int x4)]) O dX15_object_65 (by decide) rfl ?_
            refine z_aload O dX15_object_67 0 rfl ?_
            obtain ⟨hk, b14, hr, h⟩ := h
            refine z_getr O zf_X15_167_12 dX15_object_69 hk hr ?_
            refine z_aload O dX15_object_72 0 rfl ?_
            obtain ⟨hk, h⟩ := h
            refine z_geti O zf_X15_149_12 dX15_object_74 hk ?_
            exact False.elim h
          · replace h := h.2 c
            refine z_iconst (v := (-1)) O dX15_object_57 rfl ?_
            exact z_iret O dX15_object_58 h
set_option maxRecDepth 100000 in
set_option maxHeartbeats 4000000 in
theorem b_X15_flags_0 {G : zG} {X : zX} (O : zOK G X cX15_flags 4 RX15 (some .boolean) "flags") (hR : X.R = rm_X15_flags) {M : zM} {n k : Nat} {a0 : Nat} {x1 : Int32} {x2 : Int32} {x3 : Int32} (h : M.1 a0 = 15 ∧ ∀ M1 : zM, M1 = zi M a0 0 0 → M1.1 a0 = 15 ∧ zC G yX15_isObject cX15_isObject 3 (some .boolean) rm_X15_isObject M1 [.ref a0, .int x1, .int x2] (fun M2 v => ∃ r3 : Int32, v = some (.int r3) ∧ (r3 = 0 → X.q M2 (some (.int 0))) ∧ (¬ r3 = 0 → zC G yX15_in cX15_in 3 (some .boolean) rm_X15_in M2 [.int x3, .int 0, .int 31] (fun M4 v => ∃ r5 : Int32, v = some (.int r5) ∧ (¬ r5 = 0 → M4.1 a0 = 15 ∧ ∃ b6 : Nat, M4.2.2.2 a0 8 = some b6 ∧ M4.1 b6 = 110 ∧ vp_in x1 (M4.2.1 b6) ∧ ∃ b7 : Nat, M4.2.2.2 b6 x1.toNatClampNeg = some b7 ∧ M4.1 b7 = 13 ∧ ∃ b8 : Nat, M4.2.2.2 b7 10 = some b8 ∧ M4.1 b8 = 100 ∧ vp_in x2 (M4.2.1 b8) ∧ ∀ M9 : zM, M9 = zi M4 b8 (x2.toNatClampNeg) x3 → X.q M9 (some (.int 1))) ∧ (r5 = 0 → X.q M4 (some (.int 0))))))) : zW G X 4 M n k 0 [(0, .ref a0), (1, .int x1), (2, .int x2), (3, .int x3)] [] := by
  refine z_aload_n O dX15_flags_0 rfl 0 rfl ?_
  refine z_iconst (v := 0) O dX15_flags_1 rfl ?_
  obtain ⟨hk, h⟩ := h
  refine z_puti O zp_X15_93_14 dX15_flags_2 hk ?_
  generalize eM1 : zi M a0 0 0 = M1
  replace h := h M1 eM1.symm
  refine z_aload_n O dX15_flags_5 rfl 0 rfl ?_
  refine z_iload_n O dX15_flags_6 rfl 1 rfl ?_
  refine z_iload_n O dX15_flags_7 rfl 2 rfl ?_
  obtain ⟨hk, h⟩ := h
  refine z_callV0 (As := [.int x1, .int x2]) O zc_X15_409 h hk rfl (zRm_of hR (by decide) (by decide)) (Nat.le_of_ble_eq_true rfl) dX15_flags_8 rfl rfl rfl (fun M2 v h => ?_)
  obtain ⟨r3, rfl, h⟩ := h
  refine z_if_eq O 24 dX15_flags_11 (by decide) (fun c => ?_) (fun c => ?_)
  · replace h := h.1 c
    refine z_iconst (v := 0) O dX15_flags_24 rfl ?_
    exact z_zret O dX15_flags_25 (by decide) h
  · replace h := h.2 c
    refine z_iload_n O dX15_flags_14 rfl 3 rfl ?_
    refine z_iconst (v := 0) O dX15_flags_15 rfl ?_
    refine z_bipush (v := 31) O dX15_flags_16 rfl ?_
    refine z_callS0 (As := [.int x3, .int 0, .int 31]) O zc_X15_135 h rfl (zRm_of hR (by decide) (by decide)) (Nat.le_of_ble_eq_true rfl) dX15_flags_18 rfl rfl rfl (fun M4 v h => ?_)
    obtain ⟨r5, rfl, h⟩ := h
    refine z_if_ne O 26 dX15_flags_21 (by decide) (fun c => ?_) (fun c => ?_)
    · replace h := h.1 c
      refine z_aload_n O dX15_flags_26 rfl 0 rfl ?_
      obtain ⟨hk, b6, hr, h⟩ := h
      refine z_getr O zf_X15_21_14 dX15_flags_27 hk hr ?_
      refine z_iload_n O dX15_flags_30 rfl 1 rfl ?_
      obtain ⟨hk, hi, b7, hr, h⟩ := h
      refine z_ald (t := 8) O rfl dX15_flags_31 hk hi hr ?_
      obtain ⟨hk, b8, hr, h⟩ := h
      refine z_getr O zf_X15_189_12 dX15_flags_32 hk hr ?_
      refine z_iload_n O dX15_flags_35 rfl 2 rfl ?_
      refine z_iload_n O dX15_flags_36 rfl 3 rfl ?_
      obtain ⟨hk, hi, h⟩ := h
      refine z_iast O dX15_flags_37 hk hi ?_
      generalize eM9 : zi M4 b8 (x2.toNatClampNeg) x3 = M9
      replace h := h M9 eM9.symm
      refine z_iconst (v := 1) O dX15_flags_38 rfl ?_
      exact z_zret O dX15_flags_39 (by decide) h
    · replace h := h.2 c
      refine z_iconst (v := 0) O dX15_flags_24 rfl ?_
      exact z_zret O dX15_flags_25 (by decide) h
set_option maxRecDepth 100000 in
set_option maxHeartbeats 4000000 in
theorem b_X15_link_0 {G : zG} {X : zX} (O : zOK G X cX15_link 6 RX15 (some .boolean) "link") (hR : X.R = rm_X15_link) {M : zM} {n k : Nat} {a0 : Nat} {x1 : Int32} {x2 : Int32} {x3 : Int32} (h : M.1 a0 = 15 ∧ ∀ M1 : zM, M1 = zi M a0 0 0 → M1.1 a0 = 15 ∧ zC G yX15_isObject cX15_isObject 3 (some .boolean) rm_X15_isObject M1 [.ref a0, .int x1, .int x2] (fun M2 v => ∃ r3 : Int32, v = some (.int r3) ∧ (r3 = 0 → X.q M2 (some (.int 0))) ∧ (¬ r3 = 0 → zC G yX15_in cX15_in 3 (some .boolean) rm_X15_in M2 [.int x3, .int 1, .int 65535] (fun M4 v => ∃ r5 : Int32, v = some (.int r5) ∧ (r5 = 0 → X.q M4 (some (.int 0))) ∧ (¬ r5 = 0 → M4.1 a0 = 15 ∧ ∃ b6 : Nat, M4.2.2.2 a0 8 = some b6 ∧ M4.1 b6 = 110 ∧ vp_in x1 (M4.2.1 b6) ∧ ∃ b7 : Nat, M4.2.2.2 b6 x1.toNatClampNeg = some b7 ∧ M4.1 b7 = 13 ∧ (¬ (M4.2.2.1 b7 12) = 24 → M4.1 a0 = 15 ∧ ∃ b8 : Nat, M4.2.2.2 a0 8 = some b8 ∧ M4.1 b8 = 110 ∧ vp_in x1 (M4.2.1 b8) ∧ ∃ b9 : Nat, M4.2.2.2 b8 x1.toNatClampNeg = some b9 ∧ zW G X 6 M4 n k 52 [(2, .int x2), (3, .int x3), (4, .ref b9), (5, .int 0)] []) ∧ ((M4.2.2.1 b7 12) = 24 → X.q M4 (some (.int 0)))))))) : zW G X 6 M n k 0 [(0, .ref a0), (1, .int x1), (2, .int x2), (3, .int x3)] [] := by
  refine z_aload_n O dX15_link_0 rfl 0 rfl ?_
  refine z_iconst (v := 0) O dX15_link_1 rfl ?_
  obtain ⟨hk, h⟩ := h
  refine z_puti O zp_X15_93_14 dX15_link_2 hk ?_
  generalize eM1 : zi M a0 0 0 = M1
  replace h := h M1 eM1.symm
  refine z_aload_n O dX15_link_5 rfl 0 rfl ?_
  refine z_iload_n O dX15_link_6 rfl 1 rfl ?_
  refine z_iload_n O dX15_link_7 rfl 2 rfl ?_
  obtain ⟨hk, h⟩ := h
  refine z_callV0 (As := [.int x1, .int x2]) O zc_X15_409 h hk rfl (zRm_of hR (by decide) (by decide)) (Nat.le_of_ble_eq_true rfl) dX15_link_8 rfl rfl rfl (fun M2 v h => ?_)
  obtain ⟨r3, rfl, h⟩ := h
  refine z_if_eq O 39 dX15_link_11 (by decide) (fun c => ?_) (fun c => ?_)
  · replace h := h.1 c
    refine z_iconst (v := 0) O dX15_link_39 rfl ?_
    exact z_zret O dX15_link_40 (by decide) h
  · replace h := h.2 c
    refine z_iload_n O dX15_link_14 rfl 3 rfl ?_
    refine z_iconst (v := 1) O dX15_link_15 rfl ?_
    refine z_ldc_w O dX15_link_16 zk_X15_405 ?_
    refine z_callS0 (As := [.int x3, .int 1, .int 65535]) O zc_X15_135 h rfl (zRm_of hR (by decide) (by decide)) (Nat.le_of_ble_eq_true rfl) dX15_link_19 rfl rfl rfl (fun M4 v h => ?_)
    obtain ⟨r5, rfl, h⟩ := h
    refine z_if_eq O 39 dX15_link_22 (by decide) (fun c => ?_) (fun c => ?_)
    · replace h := h.1 c
      refine z_iconst (v := 0) O dX15_link_39 rfl ?_
      exact z_zret O dX15_link_40 (by decide) h
    · replace h := h.2 c
      refine z_aload_n O dX15_link_25 rfl 0 rfl ?_
      obtain ⟨hk, b6, hr, h⟩ := h
      refine z_getr O zf_X15_21_14 dX15_link_26 hk hr ?_
      refine z_iload_n O dX15_link_29 rfl 1 rfl ?_
      obtain ⟨hk, hi, b7, hr, h⟩ := h
      refine z_ald (t := 8) O rfl dX15_link_30 hk hi hr ?_
      obtain ⟨hk, h⟩ := h
      refine z_geti O zf_X15_180_12 dX15_link_31 hk ?_
      refine z_bipush (v := 24) O dX15_link_34 rfl ?_
      refine z_icmp_ne O 41 dX15_link_36 (by decide) (fun c => ?_) (fun c => ?_)
      · replace h := h.1 c
        refine z_aload_n O dX15_link_41 rfl 0 rfl ?_
        obtain ⟨hk, b8, hr, h⟩ := h
        refine z_getr O zf_X15_21_14 dX15_link_42 hk hr ?_
        refine z_iload_n O dX15_link_45 rfl 1 rfl ?_
        obtain ⟨hk, hi, b9, hr, h⟩ := h
        refine z_ald (t := 8) O rfl dX15_link_46 hk hi hr ?_
        refine z_astore (lv' := [(4, .ref b9), (0, .ref a0), (1, .int x1), (2, .int x2), (3, .int x3)]) O dX15_link_47 (by decide) rfl ?_
        refine z_iconst (v := 0) O dX15_link_49 rfl ?_
        refine z_istore (lv' := [(5, .int 0), (4, .ref b9), (0, .ref a0), (1, .int x1), (2, .int x2), (3, .int x3)]) O dX15_link_50 (by decide) rfl ?_
        exact z_to [4, 5, 1, 0] rfl h
      · replace h := h.2 c
        refine z_iconst (v := 0) O dX15_link_39 rfl ?_
        exact z_zret O dX15_link_40 (by decide) h
set_option maxRecDepth 100000 in
set_option maxHeartbeats 4000000 in
theorem b_X15_link_52 {G : zG} {X : zX} (O : zOK G X cX15_link 6 RX15 (some .boolean) "link") (hR : X.R = rm_X15_link) {M : zM} {n k : Nat} {x2 : Int32} {x3 : Int32} {a4 : Nat} {x5 : Int32} (h : M.1 a4 = 13 ∧ ((M.2.2.1 a4 12) ≤ x5 → M.1 a4 = 13 ∧ ∃ b1 : Nat, M.2.2.2 a4 13 = some b1 ∧ M.1 a4 = 13 ∧ M.1 b1 = 100 ∧ vp_in ((M.2.2.1 a4 12)) (M.2.1 b1) ∧ ∀ M2 : zM, M2 = zi M b1 (((M.2.2.1 a4 12)).toNatClampNeg) x2 → M2.1 a4 = 13 ∧ ∃ b3 : Nat, M2.2.2.2 a4 14 = some b3 ∧ M2.1 a4 = 13 ∧ M2.1 b3 = 100 ∧ vp_in ((M2.2.2.1 a4 12)) (M2.2.1 b3) ∧ ∀ M4 : zM, M4 = zi M2 b3 (((M2.2.2.1 a4 12)).toNatClampNeg) x3 → M4.1 a4 = 13 ∧ M4.1 a4 = 13 ∧ ∀ M5 : zM, M5 = zi M4 a4 12 ((M4.2.2.1 a4 12) + 1) → X.q M5 (some (.int 1))) ∧ (¬ (M.2.2.1 a4 12) ≤ x5 → M.1 a4 = 13 ∧ ∃ b6 : Nat, M.2.2.2 a4 13 = some b6 ∧ M.1 b6 = 100 ∧ vp_in x5 (M.2.1 b6) ∧ (¬ (M.2.2.1 b6 x5.toNatClampNeg) = x2 → ∀ y7 : Int32, y7 = x5 + 1 → zW G X 6 M n k 52 [(2, .int x2), (3, .int x3), (4, .ref a4), (5, .int y7)] []) ∧ ((M.2.2.1 b6 x5.toNatClampNeg) = x2 → M.1 a4 = 13 ∧ ∃ b8 : Nat, M.2.2.2 a4 14 = some b8 ∧ M.1 b8 = 100 ∧ vp_in x5 (M.2.1 b8) ∧ (¬ (M.2.2.1 b8 x5.toNatClampNeg) = x3 → ∀ y9 : Int32, y9 = x5 + 1 → zW G X 6 M n k 52 [(2, .int x2), (3, .int x3), (4, .ref a4), (5, .int y9)] []) ∧ ((M.2.2.1 b8 x5.toNatClampNeg) = x3 → X.q M (some (.int 0)))))) : zW G X 6 M n k 52 [(2, .int x2), (3, .int x3), (4, .ref a4), (5, .int x5)] [] := by
  refine z_iload O dX15_link_52 3 rfl ?_
  refine z_aload O dX15_link_54 2 rfl ?_
  obtain ⟨hk, h⟩ := h
  refine z_geti O zf_X15_180_12 dX15_link_56 hk ?_
  refine z_icmp_ge O 94 dX15_link_59 (by decide) (fun c => ?_) (fun c => ?_)
  · replace h := h.1 c
    refine z_aload O dX15_link_94 2 rfl ?_
    obtain ⟨hk, b1, hr, h⟩ := h
    refine z_getr O zf_X15_183_12 dX15_link_96 hk hr ?_
    refine z_aload O dX15_link_99 2 rfl ?_
    obtain ⟨hk, h⟩ := h
    refine z_geti O zf_X15_180_12 dX15_link_101 hk ?_
    refine z_iload_n O dX15_link_104 rfl 0 rfl ?_
    obtain ⟨hk, hi, h⟩ := h
    refine z_iast O dX15_link_105 hk hi ?_
    generalize eM2 : zi M b1 (((M.2.2.1 a4 12)).toNatClampNeg) x2 = M2
    replace h := h M2 eM2.symm
    refine z_aload O dX15_link_106 2 rfl ?_
    obtain ⟨hk, b3, hr, h⟩ := h
    refine z_getr O zf_X15_186_12 dX15_link_108 hk hr ?_
    refine z_aload O dX15_link_111 2 rfl ?_
    obtain ⟨hk, h⟩ := h
    refine z_geti O zf_X15_180_12 dX15_link_113 hk ?_
    refine z_iload_n O dX15_link_116 rfl 1 rfl ?_
    obtain ⟨hk, hi, h⟩ := h
    refine z_iast O dX15_link_117 hk hi ?_
    generalize eM4 : zi M2 b3 (((M2.2.2.1 a4 12)).toNatClampNeg) x3 = M4
    replace h := h M4 eM4.symm
    refine z_aload O dX15_link_118 2 rfl ?_
    refine z_dup O dX15_link_120 rfl ?_
    obtain ⟨hk, h⟩ := h
    refine z_geti O zf_X15_180_12 dX15_link_121 hk ?_
    refine z_iconst (v := 1) O dX15_link_124 rfl ?_
    refine z_iadd O dX15_link_125 ?_
    obtain ⟨hk, h⟩ := h
    refine z_puti O zp_X15_180_12 dX15_link_126 hk ?_
    generalize eM5 : zi M4 a4 12 ((M4.2.2.1 a4 12) + 1) = M5
    replace h := h M5 eM5.symm
    refine z_iconst (v := 1) O dX15_link_129 rfl ?_
    exact z_zret O dX15_link_130 (by decide) h
  · replace h := h.2 c
    refine z_aload O dX15_link_62 2 rfl ?_
    obtain ⟨hk, b6, hr, h⟩ := h
    refine z_getr O zf_X15_183_12 dX15_link_64 hk hr ?_
    refine z_iload O dX15_link_67 3 rfl ?_
    obtain ⟨hk, hi, h⟩ := h
    refine z_iald O dX15_link_69 hk hi ?_
    refine z_iload_n O dX15_link_70 rfl 0 rfl ?_
    refine z_icmp_ne O 88 dX15_link_71 (by decide) (fun c => ?_) (fun c => ?_)
    · replace h := h.1 c
      obtain ⟨y7, ey7⟩ : ∃ y : Int32, y = x5 + 1 := ⟨_, rfl⟩
      replace h := h y7 ey7
      refine z_iinc (v := y7) (lv' := [(5, .int y7), (2, .int x2), (3, .int x3), (4, .ref a4)]) O dX15_link_88 (q := 3) rfl (by rw [ey7]; rfl) (by decide) rfl ?_
      refine z_goto O 52 dX15_link_91 (by decide) ?_
      exact z_to [1, 2, 3, 0] rfl h
    · replace h := h.2 c
      refine z_aload O dX15_link_74 2 rfl ?_
      obtain ⟨hk, b8, hr, h⟩ := h
      refine z_getr O zf_X15_186_12 dX15_link_76 hk hr ?_
      refine z_iload O dX15_link_79 3 rfl ?_
      obtain ⟨hk, hi, h⟩ := h
      refine z_iald O dX15_link_81 hk hi ?_
      refine z_iload_n O dX15_link_82 rfl 1 rfl ?_
      refine z_icmp_ne O 88 dX15_link_83 (by decide) (fun c => ?_) (fun c => ?_)
      · replace h := h.1 c
        obtain ⟨y9, ey9⟩ : ∃ y : Int32, y = x5 + 1 := ⟨_, rfl⟩
        replace h := h y9 ey9
        refine z_iinc (v := y9) (lv' := [(5, .int y9), (2, .int x2), (3, .int x3), (4, .ref a4)]) O dX15_link_88 (q := 3) rfl (by rw [ey9]; rfl) (by decide) rfl ?_
        refine z_goto O 52 dX15_link_91 (by decide) ?_
        exact z_to [1, 2, 3, 0] rfl h
      · replace h := h.2 c
        refine z_iconst (v := 0) O dX15_link_86 rfl ?_
        exact z_zret O dX15_link_87 (by decide) h
set_option maxRecDepth 100000 in
set_option maxHeartbeats 4000000 in
theorem b_X15_set_0 {G : zG} {X : zX} (O : zOK G X cX15_set 4 RX15 (some .int) "set") (hR : X.R = rm_X15_set) {M : zM} {n k : Nat} {a0 : Nat} {x1 : Int32} {x2 : Int32} {x3 : Int32} (h : M.1 a0 = 15 ∧ ∀ M1 : zM, M1 = zi M a0 0 0 → M1.1 a0 = 15 ∧ zC G yX15_isObject cX15_isObject 3 (some .boolean) rm_X15_isObject M1 [.ref a0, .int x1, .int x2] (fun M2 v => ∃ r3 : Int32, v = some (.int r3) ∧ (r3 = 0 → X.q M2 (some (.int (-1)))) ∧ (¬ r3 = 0 → M2.1 a0 = 15 ∧ ∃ b4 : Nat, M2.2.2.2 a0 8 = some b4 ∧ M2.1 b4 = 110 ∧ vp_in x1 (M2.2.1 b4) ∧ ∃ b5 : Nat, M2.2.2.2 b4 x1.toNatClampNeg = some b5 ∧ M2.1 a0 = 15 ∧ zC G yX15_sets cX15_sets 6 (some .int) rm_X15_sets M2 [.ref a0, .ref b5, .int x2, .int x3] (fun M6 v => ∃ r7 : Int32, v = some (.int r7) ∧ X.q M6 (some (.int r7)))))) : zW G X 4 M n k 0 [(0, .ref a0), (1, .int x1), (2, .int x2), (3, .int x3)] [] := by
  refine z_aload_n O dX15_set_0 rfl 0 rfl ?_
  refine z_iconst (v := 0) O dX15_set_1 rfl ?_
  obtain ⟨hk, h⟩ := h
  refine z_puti O zp_X15_93_14 dX15_set_2 hk ?_
  generalize eM1 : zi M a0 0 0 = M1
  replace h := h M1 eM1.symm
  refine z_aload_n O dX15_set_5 rfl 0 rfl ?_
  refine z_iload_n O dX15_set_6 rfl 1 rfl ?_
  refine z_iload_n O dX15_set_7 rfl 2 rfl ?_
  obtain ⟨hk, h⟩ := h
  refine z_callV0 (As := [.int x1, .int x2]) O zc_X15_409 h hk rfl (zRm_of hR (by decide) (by decide)) (Nat.le_of_ble_eq_true rfl) dX15_set_8 rfl rfl rfl (fun M2 v h => ?_)
  obtain ⟨r3, rfl, h⟩ := h
  refine z_if_eq O 29 dX15_set_11 (by decide) (fun c => ?_) (fun c => ?_)
  · replace h := h.1 c
    refine z_iconst (v := (-1)) O dX15_set_29 rfl ?_
    exact z_iret O dX15_set_30 h
  · replace h := h.2 c
    refine z_aload_n O dX15_set_14 rfl 0 rfl ?_
    refine z_aload_n O dX15_set_15 rfl 0 rfl ?_
    obtain ⟨hk, b4, hr, h⟩ := h
    refine z_getr O zf_X15_21_14 dX15_set_16 hk hr ?_
    refine z_iload_n O dX15_set_19 rfl 1 rfl ?_
    obtain ⟨hk, hi, b5, hr, h⟩ := h
    refine z_ald (t := 8) O rfl dX15_set_20 hk hi hr ?_
    refine z_iload_n O dX15_set_21 rfl 2 rfl ?_
    refine z_iload_n O dX15_set_22 rfl 3 rfl ?_
    obtain ⟨hk, h⟩ := h
    refine z_callV0 (As := [.ref b5, .int x2, .int x3]) O zc_X15_417 h hk rfl (zRm_of hR (by decide) (by decide)) (Nat.le_of_ble_eq_true rfl) dX15_set_23 rfl rfl rfl (fun M6 v h => ?_)
    obtain ⟨r7, rfl, h⟩ := h
    refine z_goto O 30 dX15_set_26 (by decide) ?_
    exact z_iret O dX15_set_30 h
set_option maxRecDepth 100000 in
set_option maxHeartbeats 4000000 in
theorem b_X15_ask_0 {G : zG} {X : zX} (O : zOK G X cX15_ask 6 RX15 (some .int) "ask") (hR : X.R = rm_X15_ask) {M : zM} {n k : Nat} {a0 : Nat} {x1 : Int32} {x2 : Int32} (h : M.1 a0 = 15 ∧ ∀ M1 : zM, M1 = zi M a0 0 0 → M1.1 a0 = 15 ∧ zC G yX15_isObject cX15_isObject 3 (some .boolean) rm_X15_isObject M1 [.ref a0, .int x1, .int x2] (fun M2 v => ∃ r3 : Int32, v = some (.int r3) ∧ (¬ r3 = 0 → M2.1 a0 = 15 ∧ ∃ b4 : Nat, M2.2.2.2 a0 8 = some b4 ∧ M2.1 b4 = 110 ∧ vp_in x1 (M2.2.1 b4) ∧ ∃ b5 : Nat, M2.2.2.2 b4 x1.toNatClampNeg = some b5 ∧ zC G yX15_ownGroup cX15_ownGroup 4 (some .int) rm_X15_ownGroup M2 [.ref b5, .int x2] (fun M6 v => ∃ r7 : Int32, v = some (.int r7) ∧ M6.1 b5 = 13 ∧ ∃ b8 : Nat, M6.2.2.2 b5 10 = some b8 ∧ M6.1 b8 = 100 ∧ vp_in x2 (M6.2.1 b8) ∧ (¬ ((M6.2.2.1 b8 x2.toNatClampNeg) &&& 9) = 9 → X.q M6 (some (.int (-1)))) ∧ (((M6.2.2.1 b8 x2.toNatClampNeg) &&& 9) = 9 → (¬ r7 = (-1) → M6.1 b5 = 13 ∧ ∃ b9 : Nat, M6.2.2.2 b5 2 = some b9 ∧ M6.1 b9 = 14 ∧ (¬ (M6.2.2.1 b9 5) = 8 → M6.1 a0 = 15 ∧ ∃ b10 : Nat, M6.2.2.2 a0 13 = some b10 ∧ M6.1 b10 = 100 ∧ vp_in (0 : Int32) (M6.2.1 b10) ∧ ∀ M11 : zM, M11 = zi M6 b10 ((0 : Int32).toNatClampNeg) 0 → M11.1 a0 = 15 ∧ ∃ b12 : Nat, M11.2.2.2 a0 13 = some b12 ∧ M11.1 b12 = 100 ∧ vp_in (1 : Int32) (M11.2.1 b12) ∧ ∀ M13 : zM, M13 = zi M11 b12 ((1 : Int32).toNatClampNeg) 0 → M13.1 b5 = 13 ∧ ∃ b14 : Nat, M13.2.2.2 b5 9 = some b14 ∧ M13.1 b14 = 100 ∧ vp_in x2 (M13.2.1 b14) ∧ M13.1 a0 = 15 ∧ ∃ b15 : Nat, M13.2.2.2 a0 13 = some b15 ∧ M13.1 a0 = 15 ∧ zC G yX15_tells cX15_tells 8 (some .int) rm_X15_tells M13 [.ref a0, .ref b5, .int (M13.2.2.1 b14 x2.toNatClampNeg), .int 1, .int r7, .ref b15, .int 2] (fun M16 v => ∃ r17 : Int32, v = some (.int r17) ∧ M16.1 b5 = 13 ∧ ∃ b18 : Nat, M16.2.2.2 b5 2 = some b18 ∧ M16.1 b18 = 14 ∧ X.q M16 (some (.int (M16.2.2.1 b18 5))))) ∧ ((M6.2.2.1 b9 5) = 8 → X.q M6 (some (.int (-2))))) ∧ (r7 = (-1) → X.q M6 (some (.int (-1))))))) ∧ (r3 = 0 → X.q M2 (some (.int (-1)))))) : zW G X 6 M n k 0 [(0, .ref a0), (1, .int x1), (2, .int x2)] [] := by
  refine z_aload_n O dX15_ask_0 rfl 0 rfl ?_
  refine z_iconst (v := 0) O dX15_ask_1 rfl ?_
  obtain ⟨hk, h⟩ := h
  refine z_puti O zp_X15_93_14 dX15_ask_2 hk ?_
  generalize eM1 : zi M a0 0 0 = M1
  replace h := h M1 eM1.symm
  refine z_aload_n O dX15_ask_5 rfl 0 rfl ?_
  refine z_iload_n O dX15_ask_6 rfl 1 rfl ?_
  refine z_iload_n O dX15_ask_7 rfl 2 rfl ?_
  obtain ⟨hk, h⟩ := h
  refine z_callV0 (As := [.int x1, .int x2]) O zc_X15_409 h hk rfl (zRm_of hR (by decide) (by decide)) (Nat.le_of_ble_eq_true rfl) dX15_ask_8 rfl rfl rfl (fun M2 v h => ?_)
  obtain ⟨r3, rfl, h⟩ := h
  refine z_if_ne O 16 dX15_ask_11 (by decide) (fun c => ?_) (fun c => ?_)
  · replace h := h.1 c
    refine z_aload_n O dX15_ask_16 rfl 0 rfl ?_
    obtain ⟨hk, b4, hr, h⟩ := h
    refine z_getr O zf_X15_21_14 dX15_ask_17 hk hr ?_
    refine z_iload_n O dX15_ask_20 rfl 1 rfl ?_
    obtain ⟨hk, hi, b5, hr, h⟩ := h
    refine z_ald (t := 8) O rfl dX15_ask_21 hk hi hr ?_
    refine z_astore_n (lv' := [(3, .ref b5), (0, .ref a0), (1, .int x1), (2, .int x2)]) O dX15_ask_22 rfl (by decide) rfl ?_
    refine z_aload_n O dX15_ask_23 rfl 0 rfl ?_
    refine z_iload_n O dX15_ask_24 rfl 3 rfl ?_
    refine z_callS0 (As := [.ref b5, .int x2]) O zc_X15_413 h rfl (zRm_of hR (by decide) (by decide)) (Nat.le_of_ble_eq_true rfl) dX15_ask_25 rfl rfl rfl (fun M6 v h => ?_)
    obtain ⟨r7, rfl, h⟩ := h
    refine z_istore (lv' := [(4, .int r7), (3, .ref b5), (0, .ref a0), (1, .int x1), (2, .int x2)]) O dX15_ask_28 (by decide) rfl ?_
    refine z_aload_n O dX15_ask_30 rfl 1 rfl ?_
    obtain ⟨hk, b8, hr, h⟩ := h
    refine z_getr O zf_X15_189_12 dX15_ask_31 hk hr ?_
    refine z_iload_n O dX15_ask_34 rfl 4 rfl ?_
    obtain ⟨hk, hi, h⟩ := h
    refine z_iald O dX15_ask_35 hk hi ?_
    refine z_bipush (v := 9) O dX15_ask_36 rfl ?_
    refine z_iand O dX15_ask_38 ?_
    refine z_bipush (v := 9) O dX15_ask_39 rfl ?_
    refine z_icmp_ne O 50 dX15_ask_41 (by decide) (fun c => ?_) (fun c => ?_)
    · replace h := h.1 c
      refine z_iconst (v := (-1)) O dX15_ask_50 rfl ?_
      exact z_iret O dX15_ask_51 h
    · replace h := h.2 c
      refine z_iload O dX15_ask_44 0 rfl ?_
      refine z_iconst (v := (-1)) O dX15_ask_46 rfl ?_
      refine z_icmp_ne O 52 dX15_ask_47 (by decide) (fun c => ?_) (fun c => ?_)
      · replace h := h.1 c
        refine z_aload_n O dX15_ask_52 rfl 1 rfl ?_
        obtain ⟨hk, b9, hr, h⟩ := h
        refine z_getr O zf_X15_155_12 dX15_ask_53 hk hr ?_
        obtain ⟨hk, h⟩ := h
        refine z_geti O zf_X15_96_13 dX15_ask_56 hk ?_
        refine z_bipush (v := 8) O dX15_ask_59 rfl ?_
        refine z_icmp_ne O 67 dX15_ask_61 (by decide) (fun c => ?_) (fun c => ?_)
        · replace h := h.1 c
          refine z_aload_n O dX15_ask_67 rfl 2 rfl ?_
          obtain ⟨hk, b10, hr, h⟩ := h
          refine z_getr O zf_X15_37_14 dX15_ask_68 hk hr ?_
          refine z_iconst (v := 0) O dX15_ask_71 rfl ?_
          refine z_iconst (v := 0) O dX15_ask_72 rfl ?_
          obtain ⟨hk, hi, h⟩ := h
          refine z_iast O dX15_ask_73 hk hi ?_
          generalize eM11 : zi M6 b10 ((0 : Int32).toNatClampNeg) 0 = M11
          replace h := h M11 eM11.symm
          refine z_aload_n O dX15_ask_74 rfl 2 rfl ?_
          obtain ⟨hk, b12, hr, h⟩ := h
          refine z_getr O zf_X15_37_14 dX15_ask_75 hk hr ?_
          refine z_iconst (v := 1) O dX15_ask_78 rfl ?_
          refine z_iconst (v := 0) O dX15_ask_79 rfl ?_
          obtain ⟨hk, hi, h⟩ := h
          refine z_iast O dX15_ask_80 hk hi ?_
          generalize eM13 : zi M11 b12 ((1 : Int32).toNatClampNeg) 0 = M13
          replace h := h M13 eM13.symm
          refine z_aload_n O dX15_ask_81 rfl 2 rfl ?_
          refine z_aload_n O dX15_ask_82 rfl 1 rfl ?_
          refine z_aload_n O dX15_ask_83 rfl 1 rfl ?_
          obtain ⟨hk, b14, hr, h⟩ := h
          refine z_getr O zf_X15_177_12 dX15_ask_84 hk hr ?_
          refine z_iload_n O dX15_ask_87 rfl 4 rfl ?_
          obtain ⟨hk, hi, h⟩ := h
          refine z_iald O dX15_ask_88 hk hi ?_
          refine z_iconst (v := 1) O dX15_ask_89 rfl ?_
          refine z_iload O dX15_ask_90 0 rfl ?_
          refine z_aload_n O dX15_ask_92 rfl 2 rfl ?_
          obtain ⟨hk, b15, hr, h⟩ := h
          refine z_getr O zf_X15_37_14 dX15_ask_93 hk hr ?_
          refine z_iconst (v := 2) O dX15_ask_96 rfl ?_
          obtain ⟨hk, h⟩ := h
          refine z_callV0 (As := [.ref b5, .int (M13.2.2.1 b14 x2.toNatClampNeg), .int 1, .int r7, .ref b15, .int 2]) O zc_X15_163 h hk rfl (zRm_of hR (by decide) (by decide)) (Nat.le_of_ble_eq_true rfl) dX15_ask_97 rfl rfl rfl (fun M16 v h => ?_)
          obtain ⟨r17, rfl, h⟩ := h
          refine z_istore (lv' := [(5, .int r17), (4, .int r7), (3, .ref b5), (0, .ref a0), (1, .int x1), (2, .int x2)]) O dX15_ask_100 (by decide) rfl ?_
          refine z_aload_n O dX15_ask_102 rfl 2 rfl ?_
          obtain ⟨hk, b18, hr, h⟩ := h
          refine z_getr O zf_X15_155_12 dX15_ask_103 hk hr ?_
          obtain ⟨hk, h⟩ := h
          refine z_geti O zf_X15_96_13 dX15_ask_106 hk ?_
          exact z_iret O dX15_ask_109 h
        · replace h := h.2 c
          refine z_bipush (v := (-2)) O dX15_ask_64 rfl ?_
          exact z_iret O dX15_ask_66 h
      · replace h := h.2 c
        refine z_iconst (v := (-1)) O dX15_ask_50 rfl ?_
        exact z_iret O dX15_ask_51 h
  · replace h := h.2 c
    refine z_iconst (v := (-1)) O dX15_ask_14 rfl ?_
    exact z_iret O dX15_ask_15 h
set_option maxRecDepth 100000 in
set_option maxHeartbeats 4000000 in
theorem b_X15_value_0 {G : zG} {X : zX} (O : zOK G X cX15_value 3 RX15 (some .long) "value") (hR : X.R = rm_X15_value) {M : zM} {n k : Nat} {a0 : Nat} {x1 : Int32} {x2 : Int32} (h : M.1 a0 = 15 ∧ ∀ M1 : zM, M1 = zi M a0 0 0 → M1.1 a0 = 15 ∧ zC G yX15_isObject cX15_isObject 3 (some .boolean) rm_X15_isObject M1 [.ref a0, .int x1, .int x2] (fun M2 v => ∃ r3 : Int32, v = some (.int r3) ∧ (r3 = 0 → X.q M2 (some (.long (-1)))) ∧ (¬ r3 = 0 → M2.1 a0 = 15 ∧ ∃ b4 : Nat, M2.2.2.2 a0 8 = some b4 ∧ M2.1 b4 = 110 ∧ vp_in x1 (M2.2.1 b4) ∧ ∃ b5 : Nat, M2.2.2.2 b4 x1.toNatClampNeg = some b5 ∧ M2.1 b5 = 13 ∧ ∃ b6 : Nat, M2.2.2.2 b5 8 = some b6 ∧ M2.1 b6 = 100 ∧ vp_in x2 (M2.2.1 b6) ∧ X.q M2 (some (.long ((Int32.toInt64 (M2.2.2.1 b6 x2.toNatClampNeg)) &&& 4294967295)))))) : zW G X 3 M n k 0 [(0, .ref a0), (1, .int x1), (2, .int x2)] [] := by
  refine z_aload_n O dX15_value_0 rfl 0 rfl ?_
  refine z_iconst (v := 0) O dX15_value_1 rfl ?_
  obtain ⟨hk, h⟩ := h
  refine z_puti O zp_X15_93_14 dX15_value_2 hk ?_
  generalize eM1 : zi M a0 0 0 = M1
  replace h := h M1 eM1.symm
  refine z_aload_n O dX15_value_5 rfl 0 rfl ?_
  refine z_iload_n O dX15_value_6 rfl 1 rfl ?_
  refine z_iload_n O dX15_value_7 rfl 2 rfl ?_
  obtain ⟨hk, h⟩ := h
  refine z_callV0 (As := [.int x1, .int x2]) O zc_X15_409 h hk rfl (zRm_of hR (by decide) (by decide)) (Nat.le_of_ble_eq_true rfl) dX15_value_8 rfl rfl rfl (fun M2 v h => ?_)
  obtain ⟨r3, rfl, h⟩ := h
  refine z_if_eq O 33 dX15_value_11 (by decide) (fun c => ?_) (fun c => ?_)
  · replace h := h.1 c
    refine z_ldc2_w O dX15_value_33 zk_X15_422 ?_
    exact z_lret O dX15_value_36 h
  · replace h := h.2 c
    refine z_aload_n O dX15_value_14 rfl 0 rfl ?_
    obtain ⟨hk, b4, hr, h⟩ := h
    refine z_getr O zf_X15_21_14 dX15_value_15 hk hr ?_
    refine z_iload_n O dX15_value_18 rfl 1 rfl ?_
    obtain ⟨hk, hi, b5, hr, h⟩ := h
    refine z_ald (t := 8) O rfl dX15_value_19 hk hi hr ?_
    obtain ⟨hk, b6, hr, h⟩ := h
    refine z_getr O zf_X15_174_12 dX15_value_20 hk hr ?_
    refine z_iload_n O dX15_value_23 rfl 2 rfl ?_
    obtain ⟨hk, hi, h⟩ := h
    refine z_iald O dX15_value_24 hk hi ?_
    refine z_i2l O dX15_value_25 ?_
    refine z_ldc2_w O dX15_value_26 zk_X15_420 ?_
    refine z_land O dX15_value_29 ?_
    refine z_goto O 36 dX15_value_30 (by decide) ?_
    exact z_lret O dX15_value_36 h
set_option maxRecDepth 100000 in
set_option maxHeartbeats 4000000 in
theorem b_X15_updated_0 {G : zG} {X : zX} (O : zOK G X cX15_updated 3 RX15 (some .int) "updated") (hR : X.R = rm_X15_updated) {M : zM} {n k : Nat} {a0 : Nat} {x1 : Int32} {x2 : Int32} (h : M.1 a0 = 15 ∧ ∀ M1 : zM, M1 = zi M a0 0 0 → M1.1 a0 = 15 ∧ zC G yX15_isObject cX15_isObject 3 (some .boolean) rm_X15_isObject M1 [.ref a0, .int x1, .int x2] (fun M2 v => ∃ r3 : Int32, v = some (.int r3) ∧ (r3 = 0 → X.q M2 (some (.int (-1)))) ∧ (¬ r3 = 0 → M2.1 a0 = 15 ∧ ∃ b4 : Nat, M2.2.2.2 a0 8 = some b4 ∧ M2.1 b4 = 110 ∧ vp_in x1 (M2.2.1 b4) ∧ ∃ b5 : Nat, M2.2.2.2 b4 x1.toNatClampNeg = some b5 ∧ M2.1 b5 = 13 ∧ ∃ b6 : Nat, M2.2.2.2 b5 11 = some b6 ∧ M2.1 b6 = 100 ∧ vp_in x2 (M2.2.1 b6) ∧ X.q M2 (some (.int (M2.2.2.1 b6 x2.toNatClampNeg)))))) : zW G X 3 M n k 0 [(0, .ref a0), (1, .int x1), (2, .int x2)] [] := by
  refine z_aload_n O dX15_updated_0 rfl 0 rfl ?_
  refine z_iconst (v := 0) O dX15_updated_1 rfl ?_
  obtain ⟨hk, h⟩ := h
  refine z_puti O zp_X15_93_14 dX15_updated_2 hk ?_
  generalize eM1 : zi M a0 0 0 = M1
  replace h := h M1 eM1.symm
  refine z_aload_n O dX15_updated_5 rfl 0 rfl ?_
  refine z_iload_n O dX15_updated_6 rfl 1 rfl ?_
  refine z_iload_n O dX15_updated_7 rfl 2 rfl ?_
  obtain ⟨hk, h⟩ := h
  refine z_callV0 (As := [.int x1, .int x2]) O zc_X15_409 h hk rfl (zRm_of hR (by decide) (by decide)) (Nat.le_of_ble_eq_true rfl) dX15_updated_8 rfl rfl rfl (fun M2 v h => ?_)
  obtain ⟨r3, rfl, h⟩ := h
  refine z_if_eq O 28 dX15_updated_11 (by decide) (fun c => ?_) (fun c => ?_)
  · replace h := h.1 c
    refine z_iconst (v := (-1)) O dX15_updated_28 rfl ?_
    exact z_iret O dX15_updated_29 h
  · replace h := h.2 c
    refine z_aload_n O dX15_updated_14 rfl 0 rfl ?_
    obtain ⟨hk, b4, hr, h⟩ := h
    refine z_getr O zf_X15_21_14 dX15_updated_15 hk hr ?_
    refine z_iload_n O dX15_updated_18 rfl 1 rfl ?_
    obtain ⟨hk, hi, b5, hr, h⟩ := h
    refine z_ald (t := 8) O rfl dX15_updated_19 hk hi hr ?_
    obtain ⟨hk, b6, hr, h⟩ := h
    refine z_getr O zf_X15_200_12 dX15_updated_20 hk hr ?_
    refine z_iload_n O dX15_updated_23 rfl 2 rfl ?_
    obtain ⟨hk, hi, h⟩ := h
    refine z_iald O dX15_updated_24 hk hi ?_
    refine z_goto O 29 dX15_updated_25 (by decide) ?_
    exact z_iret O dX15_updated_29 h
set_option maxRecDepth 100000 in
set_option maxHeartbeats 4000000 in
theorem b_X15_hundredths_0 {G : zG} {X : zX} (O : zOK G X cX15_hundredths 5 RX15 (some .long) "hundredths") (hR : X.R = rm_X15_hundredths) {M : zM} {n k : Nat} {a0 : Nat} {x1 : Int32} {x2 : Int32} (h : M.1 a0 = 15 ∧ ∀ M1 : zM, M1 = zi M a0 0 0 → M1.1 a0 = 15 ∧ zC G yX15_isObject cX15_isObject 3 (some .boolean) rm_X15_isObject M1 [.ref a0, .int x1, .int x2] (fun M2 v => ∃ r3 : Int32, v = some (.int r3) ∧ (r3 = 0 → X.q M2 (some (.long (-9223372036854775808)))) ∧ (¬ r3 = 0 → M2.1 a0 = 15 ∧ ∃ b4 : Nat, M2.2.2.2 a0 8 = some b4 ∧ M2.1 b4 = 110 ∧ vp_in x1 (M2.2.1 b4) ∧ ∃ b5 : Nat, M2.2.2.2 b4 x1.toNatClampNeg = some b5 ∧ M2.1 b5 = 13 ∧ ∃ b6 : Nat, M2.2.2.2 b5 7 = some b6 ∧ M2.1 b6 = 100 ∧ vp_in x2 (M2.2.1 b6) ∧ ((M2.2.2.1 b6 x2.toNatClampNeg) = 16 → M2.1 a0 = 15 ∧ ∃ b7 : Nat, M2.2.2.2 a0 8 = some b7 ∧ M2.1 b7 = 110 ∧ vp_in x1 (M2.2.1 b7) ∧ ∃ b8 : Nat, M2.2.2.2 b7 x1.toNatClampNeg = some b8 ∧ M2.1 b8 = 13 ∧ ∃ b9 : Nat, M2.2.2.2 b8 8 = some b9 ∧ M2.1 b9 = 100 ∧ vp_in x2 (M2.2.1 b9) ∧ ∀ y10 : Int32, y10 = (M2.2.2.1 b9 x2.toNatClampNeg) → (y10 < 32768 → zW G X 5 M2 n k 65 [(3, .int y10)] [.int 0, .int (y10 - y10 / 2048 * 2048)]) ∧ (¬ y10 < 32768 → zW G X 5 M2 n k 65 [(3, .int y10)] [.int 2048, .int (y10 - y10 / 2048 * 2048)])) ∧ (¬ (M2.2.2.1 b6 x2.toNatClampNeg) = 16 → X.q M2 (some (.long (-9223372036854775808))))))) : zW G X 5 M n k 0 [(0, .ref a0), (1, .int x1), (2, .int x2)] [] := by
  refine z_aload_n O dX15_hundredths_0 rfl 0 rfl ?_
  refine z_iconst (v := 0) O dX15_hundredths_1 rfl ?_
  obtain ⟨hk, h⟩ := h
  refine z_puti O zp_X15_93_14 dX15_hundredths_2 hk ?_
  generalize eM1 : zi M a0 0 0 = M1
  replace h := h M1 eM1.symm
  refine z_aload_n O dX15_hundredths_5 rfl 0 rfl ?_
  refine z_iload_n O dX15_hundredths_6 rfl 1 rfl ?_
  refine z_iload_n O dX15_hundredths_7 rfl 2 rfl ?_
  obtain ⟨hk, h⟩ := h
  refine z_callV0 (As := [.int x1, .int x2]) O zc_X15_409 h hk rfl (zRm_of hR (by decide) (by decide)) (Nat.le_of_ble_eq_true rfl) dX15_hundredths_8 rfl rfl rfl (fun M2 v h => ?_)
  obtain ⟨r3, rfl, h⟩ := h
  refine z_if_eq O 30 dX15_hundredths_11 (by decide) (fun c => ?_) (fun c => ?_)
  · replace h := h.1 c
    refine z_ldc2_w O dX15_hundredths_30 zk_X15_426 ?_
    exact z_lret O dX15_hundredths_33 h
  · replace h := h.2 c
    refine z_aload_n O dX15_hundredths_14 rfl 0 rfl ?_
    obtain ⟨hk, b4, hr, h⟩ := h
    refine z_getr O zf_X15_21_14 dX15_hundredths_15 hk hr ?_
    refine z_iload_n O dX15_hundredths_18 rfl 1 rfl ?_
    obtain ⟨hk, hi, b5, hr, h⟩ := h
    refine z_ald (t := 8) O rfl dX15_hundredths_19 hk hi hr ?_
    obtain ⟨hk, b6, hr, h⟩ := h
    refine z_getr O zf_X15_167_12 dX15_hundredths_20 hk hr ?_
    refine z_iload_n O dX15_hundredths_23 rfl 2 rfl ?_
    obtain ⟨hk, hi, h⟩ := h
    refine z_iald O dX15_hundredths_24 hk hi ?_
    refine z_bipush (v := 16) O dX15_hundredths_25 rfl ?_
    refine z_icmp_eq O 34 dX15_hundredths_27 (by decide) (fun c => ?_) (fun c => ?_)
    · replace h := h.1 c
      refine z_aload_n O dX15_hundredths_34 rfl 0 rfl ?_
      obtain ⟨hk, b7, hr, h⟩ := h
      refine z_getr O zf_X15_21_14 dX15_hundredths_35 hk hr ?_
      refine z_iload_n O dX15_hundredths_38 rfl 1 rfl ?_
      obtain ⟨hk, hi, b8, hr, h⟩ := h
      refine z_ald (t := 8) O rfl dX15_hundredths_39 hk hi hr ?_
      obtain ⟨hk, b9, hr, h⟩ := h
      refine z_getr O zf_X15_174_12 dX15_hundredths_40 hk hr ?_
      refine z_iload_n O dX15_hundredths_43 rfl 2 rfl ?_
      obtain ⟨hk, hi, h⟩ := h
      refine z_iald O dX15_hundredths_44 hk hi ?_
      refine z_topi (fun y10 ey10 => ?_)
      replace h := h y10 ey10
      refine z_istore_n (lv' := [(3, .int y10), (0, .ref a0), (1, .int x1), (2, .int x2)]) O dX15_hundredths_45 rfl (by decide) rfl ?_
      refine z_iload_n O dX15_hundredths_46 rfl 0 rfl ?_
      refine z_sipush (v := 2048) O dX15_hundredths_47 rfl ?_
      refine z_irem O dX15_hundredths_50 (by decide) ?_
      refine z_iload_n O dX15_hundredths_51 rfl 0 rfl ?_
      refine z_ldc_w O dX15_hundredths_52 zk_X15_428 ?_
      refine z_icmp_lt O 64 dX15_hundredths_55 (by decide) (fun c => ?_) (fun c => ?_)
      · replace h := h.1 c
        refine z_iconst (v := 0) O dX15_hundredths_64 rfl ?_
        exact z_to [0] rfl h
      · replace h := h.2 c
        refine z_sipush (v := 2048) O dX15_hundredths_58 rfl ?_
        refine z_goto O 65 dX15_hundredths_61 (by decide) ?_
        exact z_to [0] rfl h
    · replace h := h.2 c
      refine z_ldc2_w O dX15_hundredths_30 zk_X15_426 ?_
      exact z_lret O dX15_hundredths_33 h
set_option maxRecDepth 100000 in
set_option maxHeartbeats 4000000 in
theorem b_X15_hundredths_65 {G : zG} {X : zX} (O : zOK G X cX15_hundredths 5 RX15 (some .long) "hundredths") (hR : X.R = rm_X15_hundredths) {M : zM} {n k : Nat} {x3 : Int32} {s0 : Int32} {s1 : Int32} (h : ∀ y1 : Int32, y1 = (s1 - s0) → X.q M (some (.long ((Int32.toInt64 y1) * (Int32.toInt64 (1 <<< (((x3 / 2048) - (x3 / 2048) / 16 * 16) &&& 31))))))) : zW G X 5 M n k 65 [(3, .int x3)] [.int s0, .int s1] := by
  refine z_isub O dX15_hundredths_65 ?_
  refine z_topi (fun y1 ey1 => ?_)
  replace h := h y1 ey1
  refine z_istore (lv' := [(4, .int y1), (3, .int x3)]) O dX15_hundredths_66 (by decide) rfl ?_
  refine z_iload O dX15_hundredths_68 0 rfl ?_
  refine z_i2l O dX15_hundredths_70 ?_
  refine z_iconst (v := 1) O dX15_hundredths_71 rfl ?_
  refine z_iload_n O dX15_hundredths_72 rfl 1 rfl ?_
  refine z_sipush (v := 2048) O dX15_hundredths_73 rfl ?_
  refine z_idiv O dX15_hundredths_76 (by decide) ?_
  refine z_bipush (v := 16) O dX15_hundredths_77 rfl ?_
  refine z_irem O dX15_hundredths_79 (by decide) ?_
  refine z_ishl O dX15_hundredths_80 ?_
  refine z_i2l O dX15_hundredths_81 ?_
  refine z_lmul O dX15_hundredths_82 ?_
  exact z_lret O dX15_hundredths_83 h
set_option maxRecDepth 100000 in
set_option maxHeartbeats 4000000 in
theorem b_X15_point_0 {G : zG} {X : zX} (O : zOK G X cX15_point 6 RX15 (some .int) "point") (hR : X.R = rm_X15_point) {M : zM} {n k : Nat} {a0 : Nat} {x1 : Int32} {x2 : Int32} {x3 : Int32} (h : M.1 a0 = 15 ∧ ∀ M1 : zM, M1 = zi M a0 0 0 → M1.1 a0 = 15 ∧ zC G yX15_isObject cX15_isObject 3 (some .boolean) rm_X15_isObject M1 [.ref a0, .int x1, .int x2] (fun M2 v => ∃ r3 : Int32, v = some (.int r3) ∧ (r3 = 0 → X.q M2 (some (.int (-1)))) ∧ (¬ r3 = 0 → M2.1 a0 = 15 ∧ ∃ b4 : Nat, M2.2.2.2 a0 8 = some b4 ∧ M2.1 b4 = 110 ∧ vp_in x1 (M2.2.1 b4) ∧ ∃ b5 : Nat, M2.2.2.2 b4 x1.toNatClampNeg = some b5 ∧ M2.1 b5 = 13 ∧ ∃ b6 : Nat, M2.2.2.2 b5 7 = some b6 ∧ M2.1 b6 = 100 ∧ vp_in x2 (M2.2.1 b6) ∧ ((M2.2.2.1 b6 x2.toNatClampNeg) = 16 → zW G X 6 M2 n k 35 [(0, .ref a0), (1, .int x1), (2, .int x2), (3, .int x3), (4, .int 0)] []) ∧ (¬ (M2.2.2.1 b6 x2.toNatClampNeg) = 16 → X.q M2 (some (.int (-1))))))) : zW G X 6 M n k 0 [(0, .ref a0), (1, .int x1), (2, .int x2), (3, .int x3)] [] := by
  refine z_aload_n O dX15_point_0 rfl 0 rfl ?_
  refine z_iconst (v := 0) O dX15_point_1 rfl ?_
  obtain ⟨hk, h⟩ := h
  refine z_puti O zp_X15_93_14 dX15_point_2 hk ?_
  generalize eM1 : zi M a0 0 0 = M1
  replace h := h M1 eM1.symm
  refine z_aload_n O dX15_point_5 rfl 0 rfl ?_
  refine z_iload_n O dX15_point_6 rfl 1 rfl ?_
  refine z_iload_n O dX15_point_7 rfl 2 rfl ?_
  obtain ⟨hk, h⟩ := h
  refine z_callV0 (As := [.int x1, .int x2]) O zc_X15_409 h hk rfl (zRm_of hR (by decide) (by decide)) (Nat.le_of_ble_eq_true rfl) dX15_point_8 rfl rfl rfl (fun M2 v h => ?_)
  obtain ⟨r3, rfl, h⟩ := h
  refine z_if_eq O 30 dX15_point_11 (by decide) (fun c => ?_) (fun c => ?_)
  · replace h := h.1 c
    refine z_iconst (v := (-1)) O dX15_point_30 rfl ?_
    exact z_iret O dX15_point_31 h
  · replace h := h.2 c
    refine z_aload_n O dX15_point_14 rfl 0 rfl ?_
    obtain ⟨hk, b4, hr, h⟩ := h
    refine z_getr O zf_X15_21_14 dX15_point_15 hk hr ?_
    refine z_iload_n O dX15_point_18 rfl 1 rfl ?_
    obtain ⟨hk, hi, b5, hr, h⟩ := h
    refine z_ald (t := 8) O rfl dX15_point_19 hk hi hr ?_
    obtain ⟨hk, b6, hr, h⟩ := h
    refine z_getr O zf_X15_167_12 dX15_point_20 hk hr ?_
    refine z_iload_n O dX15_point_23 rfl 2 rfl ?_
    obtain ⟨hk, hi, h⟩ := h
    refine z_iald O dX15_point_24 hk hi ?_
    refine z_bipush (v := 16) O dX15_point_25 rfl ?_
    refine z_icmp_eq O 32 dX15_point_27 (by decide) (fun c => ?_) (fun c => ?_)
    · replace h := h.1 c
      refine z_iconst (v := 0) O dX15_point_32 rfl ?_
      refine z_istore (lv' := [(4, .int 0), (0, .ref a0), (1, .int x1), (2, .int x2), (3, .int x3)]) O dX15_point_33 (by decide) rfl ?_
      exact z_to [1, 2, 3, 4, 0] rfl h
    · replace h := h.2 c
      refine z_iconst (v := (-1)) O dX15_point_30 rfl ?_
      exact z_iret O dX15_point_31 h
set_option maxRecDepth 100000 in
set_option maxHeartbeats 4000000 in
theorem b_X15_point_35 {G : zG} {X : zX} (O : zOK G X cX15_point 6 RX15 (some .int) "point") (hR : X.R = rm_X15_point) {M : zM} {n k : Nat} {a0 : Nat} {x1 : Int32} {x2 : Int32} {x3 : Int32} {x4 : Int32} (h : (16 ≤ x4 → X.q M (some (.int (-1)))) ∧ (¬ 16 ≤ x4 → ∀ y1 : Int32, y1 = (x3 >>> (x4 &&& 31)) → zC G yX15_in cX15_in 3 (some .boolean) rm_X15_in M [.int y1, .int (-2048), .int 2047] (fun M2 v => ∃ r3 : Int32, v = some (.int r3) ∧ (r3 = 0 → ∀ y4 : Int32, y4 = x4 + 1 → zW G X 6 M2 n k 35 [(0, .ref a0), (1, .int x1), (2, .int x2), (3, .int x3), (4, .int y4)] []) ∧ (¬ r3 = 0 → M2.1 a0 = 15 ∧ ∃ b5 : Nat, M2.2.2.2 a0 8 = some b5 ∧ M2.1 b5 = 110 ∧ vp_in x1 (M2.2.1 b5) ∧ ∃ b6 : Nat, M2.2.2.2 b5 x1.toNatClampNeg = some b6 ∧ (0 ≤ y1 → zW G X 6 M2 n k 82 [(4, .int x4), (5, .int y1)] [.int 0, .int x2, .ref b6, .ref a0]) ∧ (¬ 0 ≤ y1 → zW G X 6 M2 n k 82 [(4, .int x4), (5, .int y1)] [.int 32768, .int x2, .ref b6, .ref a0]))))) : zW G X 6 M n k 35 [(0, .ref a0), (1, .int x1), (2, .int x2), (3, .int x3), (4, .int x4)] [] := by
  refine z_iload O dX15_point_35 4 rfl ?_
  refine z_bipush (v := 16) O dX15_point_37 rfl ?_
  refine z_icmp_ge O 106 dX15_point_39 (by decide) (fun c => ?_) (fun c => ?_)
  · replace h := h.1 c
    refine z_iconst (v := (-1)) O dX15_point_106 rfl ?_
    exact z_iret O dX15_point_107 h
  · replace h := h.2 c
    refine z_iload_n O dX15_point_42 rfl 3 rfl ?_
    refine z_iload O dX15_point_43 4 rfl ?_
    refine z_ishr O dX15_point_45 ?_
    refine z_topi (fun y1 ey1 => ?_)
    replace h := h y1 ey1
    refine z_istore (lv' := [(5, .int y1), (0, .ref a0), (1, .int x1), (2, .int x2), (3, .int x3), (4, .int x4)]) O dX15_point_46 (by decide) rfl ?_
    refine z_iload O dX15_point_48 0 rfl ?_
    refine z_sipush (v := (-2048)) O dX15_point_50 rfl ?_
    refine z_sipush (v := 2047) O dX15_point_53 rfl ?_
    refine z_callS0 (As := [.int y1, .int (-2048), .int 2047]) O zc_X15_135 h rfl (zRm_of hR (by decide) (by decide)) (Nat.le_of_ble_eq_true rfl) dX15_point_56 rfl rfl rfl (fun M2 v h => ?_)
    obtain ⟨r3, rfl, h⟩ := h
    refine z_if_eq O 100 dX15_point_59 (by decide) (fun c => ?_) (fun c => ?_)
    · replace h := h.1 c
      obtain ⟨y4, ey4⟩ : ∃ y : Int32, y = x4 + 1 := ⟨_, rfl⟩
      replace h := h y4 ey4
      refine z_iinc (v := y4) (lv' := [(4, .int y4), (5, .int y1), (0, .ref a0), (1, .int x1), (2, .int x2), (3, .int x3)]) O dX15_point_100 (q := 5) rfl (by rw [ey4]; rfl) (by decide) rfl ?_
      refine z_goto O 35 dX15_point_103 (by decide) ?_
      exact z_to [2, 3, 4, 5, 0] rfl h
    · replace h := h.2 c
      refine z_aload_n O dX15_point_62 rfl 1 rfl ?_
      refine z_aload_n O dX15_point_63 rfl 1 rfl ?_
      obtain ⟨hk, b5, hr, h⟩ := h
      refine z_getr O zf_X15_21_14 dX15_point_64 hk hr ?_
      refine z_iload_n O dX15_point_67 rfl 2 rfl ?_
      obtain ⟨hk, hi, b6, hr, h⟩ := h
      refine z_ald (t := 8) O rfl dX15_point_68 hk hi hr ?_
      refine z_iload_n O dX15_point_69 rfl 3 rfl ?_
      refine z_iload O dX15_point_70 0 rfl ?_
      refine z_if_ge O 81 dX15_point_72 (by decide) (fun c => ?_) (fun c => ?_)
      · replace h := h.1 c
        refine z_iconst (v := 0) O dX15_point_81 rfl ?_
        exact z_to [5, 0] rfl h
      · replace h := h.2 c
        refine z_ldc_w O dX15_point_75 zk_X15_428 ?_
        refine z_goto O 82 dX15_point_78 (by decide) ?_
        exact z_to [5, 0] rfl h
set_option maxRecDepth 100000 in
set_option maxHeartbeats 4000000 in
theorem b_X15_point_82 {G : zG} {X : zX} (O : zOK G X cX15_point 6 RX15 (some .int) "point") (hR : X.R = rm_X15_point) {M : zM} {n k : Nat} {x4 : Int32} {x5 : Int32} {s0 : Int32} {s1 : Int32} {b2 : Nat} {b3 : Nat} (h : M.1 b3 = 15 ∧ zC G yX15_sets cX15_sets 6 (some .int) rm_X15_sets M [.ref b3, .ref b2, .int s1, .int ((s0 + (2048 * x4)) + (x5 &&& 2047))] (fun M1 v => ∃ r2 : Int32, v = some (.int r2) ∧ X.q M1 (some (.int r2)))) : zW G X 6 M n k 82 [(4, .int x4), (5, .int x5)] [.int s0, .int s1, .ref b2, .ref b3] := by
  refine z_sipush (v := 2048) O dX15_point_82 rfl ?_
  refine z_iload O dX15_point_85 0 rfl ?_
  refine z_imul O dX15_point_87 ?_
  refine z_iadd O dX15_point_88 ?_
  refine z_iload O dX15_point_89 1 rfl ?_
  refine z_sipush (v := 2047) O dX15_point_91 rfl ?_
  refine z_iand O dX15_point_94 ?_
  refine z_iadd O dX15_point_95 ?_
  obtain ⟨hk, h⟩ := h
  refine z_callV0 (As := [.ref b2, .int s1, .int ((s0 + (2048 * x4)) + (x5 &&& 2047))]) O zc_X15_417 h hk rfl (zRm_of hR (by decide) (by decide)) (Nat.le_of_ble_eq_true rfl) dX15_point_96 rfl rfl rfl (fun M1 v h => ?_)
  obtain ⟨r2, rfl, h⟩ := h
  exact z_iret O dX15_point_99 h
set_option maxRecDepth 100000 in
set_option maxHeartbeats 4000000 in
theorem b_X15_connect_0 {G : zG} {X : zX} (O : zOK G X cX15_connect 4 RX15 (some .boolean) "connect") (hR : X.R = rm_X15_connect) {M : zM} {n k : Nat} {a0 : Nat} {x1 : Int32} {x2 : Int32} (h : M.1 a0 = 15 ∧ ∀ M1 : zM, M1 = zi M a0 0 0 → M1.1 a0 = 15 ∧ zC G yX15_isDevice cX15_isDevice 2 (some .boolean) rm_X15_isDevice M1 [.ref a0, .int x1] (fun M2 v => ∃ r3 : Int32, v = some (.int r3) ∧ (r3 = 0 → X.q M2 (some (.int 0))) ∧ (¬ r3 = 0 → zC G yX15_in cX15_in 3 (some .boolean) rm_X15_in M2 [.int x2, .int 0, .int 65535] (fun M4 v => ∃ r5 : Int32, v = some (.int r5) ∧ (r5 = 0 → X.q M4 (some (.int 0))) ∧ (¬ r5 = 0 → M4.1 a0 = 15 ∧ ∃ b6 : Nat, M4.2.2.2 a0 8 = some b6 ∧ M4.1 b6 = 110 ∧ vp_in x1 (M4.2.1 b6) ∧ ∃ b7 : Nat, M4.2.2.2 b6 x1.toNatClampNeg = some b7 ∧ M4.1 b7 = 13 ∧ (¬ (M4.2.2.1 b7 18) = 0 → X.q M4 (some (.int 0))) ∧ ((M4.2.2.1 b7 18) = 0 → M4.1 a0 = 15 ∧ ∃ b8 : Nat, M4.2.2.2 a0 8 = some b8 ∧ M4.1 b8 = 110 ∧ vp_in x1 (M4.2.1 b8) ∧ ∃ b9 : Nat, M4.2.2.2 b8 x1.toNatClampNeg = some b9 ∧ M4.1 b9 = 13 ∧ ∃ b10 : Nat, M4.2.2.2 b9 2 = some b10 ∧ M4.1 b10 = 14 ∧ (¬ (M4.2.2.1 b10 5) = 8 → M4.1 a0 = 15 ∧ ∃ b11 : Nat, M4.2.2.2 a0 8 = some b11 ∧ M4.1 b11 = 110 ∧ vp_in x1 (M4.2.1 b11) ∧ ∃ b12 : Nat, M4.2.2.2 b11 x1.toNatClampNeg = some b12 ∧ M4.1 b12 = 13 ∧ ∀ M13 : zM, M13 = zi M4 b12 18 3 → M13.1 b12 = 13 ∧ ∀ M14 : zM, M14 = zi M13 b12 19 x2 → M14.1 b12 = 13 ∧ ∀ M15 : zM, M15 = zi M14 b12 20 0 → M15.1 b12 = 13 ∧ ∀ M16 : zM, M16 = zi M15 b12 21 0 → M16.1 a0 = 15 ∧ zC G yX15_tellsOne cX15_tellsOne 4 (some .int) rm_X15_tellsOne M16 [.ref a0, .ref b12, .int x2, .int 128] (fun M17 v => ∃ r18 : Int32, v = some (.int r18) ∧ M17.1 b12 = 13 ∧ ∀ M19 : zM, M19 = zi M17 b12 25 r18 → X.q M19 (some (.int 1)))) ∧ ((M4.2.2.1 b10 5) = 8 → X.q M4 (some (.int 0))))))))) : zW G X 4 M n k 0 [(0, .ref a0), (1, .int x1), (2, .int x2)] [] := by
  refine z_aload_n O dX15_connect_0 rfl 0 rfl ?_
  refine z_iconst (v := 0) O dX15_connect_1 rfl ?_
  obtain ⟨hk, h⟩ := h
  refine z_puti O zp_X15_93_14 dX15_connect_2 hk ?_
  generalize eM1 : zi M a0 0 0 = M1
  replace h := h M1 eM1.symm
  refine z_aload_n O dX15_connect_5 rfl 0 rfl ?_
  refine z_iload_n O dX15_connect_6 rfl 1 rfl ?_
  obtain ⟨hk, h⟩ := h
  refine z_callV0 (As := [.int x1]) O zc_X15_145 h hk rfl (zRm_of hR (by decide) (by decide)) (Nat.le_of_ble_eq_true rfl) dX15_connect_7 rfl rfl rfl (fun M2 v h => ?_)
  obtain ⟨r3, rfl, h⟩ := h
  refine z_if_eq O 53 dX15_connect_10 (by decide) (fun c => ?_) (fun c => ?_)
  · replace h := h.1 c
    refine z_iconst (v := 0) O dX15_connect_53 rfl ?_
    exact z_zret O dX15_connect_54 (by decide) h
  · replace h := h.2 c
    refine z_iload_n O dX15_connect_13 rfl 2 rfl ?_
    refine z_iconst (v := 0) O dX15_connect_14 rfl ?_
    refine z_ldc_w O dX15_connect_15 zk_X15_405 ?_
    refine z_callS0 (As := [.int x2, .int 0, .int 65535]) O zc_X15_135 h rfl (zRm_of hR (by decide) (by decide)) (Nat.le_of_ble_eq_true rfl) dX15_connect_18 rfl rfl rfl (fun M4 v h => ?_)
    obtain ⟨r5, rfl, h⟩ := h
    refine z_if_eq O 53 dX15_connect_21 (by decide) (fun c => ?_) (fun c => ?_)
    · replace h := h.1 c
      refine z_iconst (v := 0) O dX15_connect_53 rfl ?_
      exact z_zret O dX15_connect_54 (by decide) h
    · replace h := h.2 c
      refine z_aload_n O dX15_connect_24 rfl 0 rfl ?_
      obtain ⟨hk, b6, hr, h⟩ := h
      refine z_getr O zf_X15_21_14 dX15_connect_25 hk hr ?_
      refine z_iload_n O dX15_connect_28 rfl 1 rfl ?_
      obtain ⟨hk, hi, b7, hr, h⟩ := h
      refine z_ald (t := 8) O rfl dX15_connect_29 hk hi hr ?_
      obtain ⟨hk, h⟩ := h
      refine z_geti O zf_X15_210_12 dX15_connect_30 hk ?_
      refine z_if_ne O 53 dX15_connect_33 (by decide) (fun c => ?_) (fun c => ?_)
      · replace h := h.1 c
        refine z_iconst (v := 0) O dX15_connect_53 rfl ?_
        exact z_zret O dX15_connect_54 (by decide) h
      · replace h := h.2 c
        refine z_aload_n O dX15_connect_36 rfl 0 rfl ?_
        obtain ⟨hk, b8, hr, h⟩ := h
        refine z_getr O zf_X15_21_14 dX15_connect_37 hk hr ?_
        refine z_iload_n O dX15_connect_40 rfl 1 rfl ?_
        obtain ⟨hk, hi, b9, hr, h⟩ := h
        refine z_ald (t := 8) O rfl dX15_connect_41 hk hi hr ?_
        obtain ⟨hk, b10, hr, h⟩ := h
        refine z_getr O zf_X15_155_12 dX15_connect_42 hk hr ?_
        obtain ⟨hk, h⟩ := h
        refine z_geti O zf_X15_96_13 dX15_connect_45 hk ?_
        refine z_bipush (v := 8) O dX15_connect_48 rfl ?_
        refine z_icmp_ne O 55 dX15_connect_50 (by decide) (fun c => ?_) (fun c => ?_)
        · replace h := h.1 c
          refine z_aload_n O dX15_connect_55 rfl 0 rfl ?_
          obtain ⟨hk, b11, hr, h⟩ := h
          refine z_getr O zf_X15_21_14 dX15_connect_56 hk hr ?_
          refine z_iload_n O dX15_connect_59 rfl 1 rfl ?_
          obtain ⟨hk, hi, b12, hr, h⟩ := h
          refine z_ald (t := 8) O rfl dX15_connect_60 hk hi hr ?_
          refine z_astore_n (lv' := [(3, .ref b12), (0, .ref a0), (1, .int x1), (2, .int x2)]) O dX15_connect_61 rfl (by decide) rfl ?_
          refine z_aload_n O dX15_connect_62 rfl 0 rfl ?_
          refine z_iconst (v := 3) O dX15_connect_63 rfl ?_
          obtain ⟨hk, h⟩ := h
          refine z_puti O zp_X15_210_12 dX15_connect_64 hk ?_
          generalize eM13 : zi M4 b12 18 3 = M13
          replace h := h M13 eM13.symm
          refine z_aload_n O dX15_connect_67 rfl 0 rfl ?_
          refine z_iload_n O dX15_connect_68 rfl 3 rfl ?_
          obtain ⟨hk, h⟩ := h
          refine z_puti O zp_X15_203_12 dX15_connect_69 hk ?_
          generalize eM14 : zi M13 b12 19 x2 = M14
          replace h := h M14 eM14.symm
          refine z_aload_n O dX15_connect_72 rfl 0 rfl ?_
          refine z_iconst (v := 0) O dX15_connect_73 rfl ?_
          obtain ⟨hk, h⟩ := h
          refine z_puti O zp_X15_216_12 dX15_connect_74 hk ?_
          generalize eM15 : zi M14 b12 20 0 = M15
          replace h := h M15 eM15.symm
          refine z_aload_n O dX15_connect_77 rfl 0 rfl ?_
          refine z_iconst (v := 0) O dX15_connect_78 rfl ?_
          obtain ⟨hk, h⟩ := h
          refine z_puti O zp_X15_246_12 dX15_connect_79 hk ?_
          generalize eM16 : zi M15 b12 21 0 = M16
          replace h := h M16 eM16.symm
          refine z_aload_n O dX15_connect_82 rfl 0 rfl ?_
          refine z_aload_n O dX15_connect_83 rfl 1 rfl ?_
          refine z_aload_n O dX15_connect_84 rfl 0 rfl ?_
          refine z_iload_n O dX15_connect_85 rfl 3 rfl ?_
          refine z_sipush (v := 128) O dX15_connect_86 rfl ?_
          obtain ⟨hk, h⟩ := h
          refine z_callV0 (As := [.ref b12, .int x2, .int 128]) O zc_X15_206 h hk rfl (zRm_of hR (by decide) (by decide)) (Nat.le_of_ble_eq_true rfl) dX15_connect_89 rfl rfl rfl (fun M17 v h => ?_)
          obtain ⟨r18, rfl, h⟩ := h
          obtain ⟨hk, h⟩ := h
          refine z_puti O zp_X15_396_12 dX15_connect_92 hk ?_
          generalize eM19 : zi M17 b12 25 r18 = M19
          replace h := h M19 eM19.symm
          refine z_iconst (v := 1) O dX15_connect_95 rfl ?_
          exact z_zret O dX15_connect_96 (by decide) h
        · replace h := h.2 c
          refine z_iconst (v := 0) O dX15_connect_53 rfl ?_
          exact z_zret O dX15_connect_54 (by decide) h
set_option maxRecDepth 100000 in
set_option maxHeartbeats 4000000 in
theorem b_X15_disconnect_0 {G : zG} {X : zX} (O : zOK G X cX15_disconnect 2 RX15 (some .boolean) "disconnect") (hR : X.R = rm_X15_disconnect) {M : zM} {n k : Nat} {a0 : Nat} {x1 : Int32} (h : M.1 a0 = 15 ∧ ∀ M1 : zM, M1 = zi M a0 0 0 → M1.1 a0 = 15 ∧ zC G yX15_isDevice cX15_isDevice 2 (some .boolean) rm_X15_isDevice M1 [.ref a0, .int x1] (fun M2 v => ∃ r3 : Int32, v = some (.int r3) ∧ (r3 = 0 → X.q M2 (some (.int 0))) ∧ (¬ r3 = 0 → M2.1 a0 = 15 ∧ ∃ b4 : Nat, M2.2.2.2 a0 8 = some b4 ∧ M2.1 b4 = 110 ∧ vp_in x1 (M2.2.1 b4) ∧ ∃ b5 : Nat, M2.2.2.2 b4 x1.toNatClampNeg = some b5 ∧ M2.1 b5 = 13 ∧ (¬ (M2.2.2.1 b5 18) = 0 → M2.1 a0 = 15 ∧ ∃ b6 : Nat, M2.2.2.2 a0 8 = some b6 ∧ M2.1 b6 = 110 ∧ vp_in x1 (M2.2.1 b6) ∧ ∃ b7 : Nat, M2.2.2.2 b6 x1.toNatClampNeg = some b7 ∧ M2.1 a0 = 15 ∧ zC G yX15_closes cX15_closes 3 none rm_X15_closes M2 [.ref a0, .ref b7] (fun M8 v => v = none ∧ X.q M8 (some (.int 1)))) ∧ ((M2.2.2.1 b5 18) = 0 → X.q M2 (some (.int 0)))))) : zW G X 2 M n k 0 [(0, .ref a0), (1, .int x1)] [] := by
  refine z_aload_n O dX15_disconnect_0 rfl 0 rfl ?_
  refine z_iconst (v := 0) O dX15_disconnect_1 rfl ?_
  obtain ⟨hk, h⟩ := h
  refine z_puti O zp_X15_93_14 dX15_disconnect_2 hk ?_
  generalize eM1 : zi M a0 0 0 = M1
  replace h := h M1 eM1.symm
  refine z_aload_n O dX15_disconnect_5 rfl 0 rfl ?_
  refine z_iload_n O dX15_disconnect_6 rfl 1 rfl ?_
  obtain ⟨hk, h⟩ := h
  refine z_callV0 (As := [.int x1]) O zc_X15_145 h hk rfl (zRm_of hR (by decide) (by decide)) (Nat.le_of_ble_eq_true rfl) dX15_disconnect_7 rfl rfl rfl (fun M2 v h => ?_)
  obtain ⟨r3, rfl, h⟩ := h
  refine z_if_eq O 25 dX15_disconnect_10 (by decide) (fun c => ?_) (fun c => ?_)
  · replace h := h.1 c
    refine z_iconst (v := 0) O dX15_disconnect_25 rfl ?_
    exact z_zret O dX15_disconnect_26 (by decide) h
  · replace h := h.2 c
    refine z_aload_n O dX15_disconnect_13 rfl 0 rfl ?_
    obtain ⟨hk, b4, hr, h⟩ := h
    refine z_getr O zf_X15_21_14 dX15_disconnect_14 hk hr ?_
    refine z_iload_n O dX15_disconnect_17 rfl 1 rfl ?_
    obtain ⟨hk, hi, b5, hr, h⟩ := h
    refine z_ald (t := 8) O rfl dX15_disconnect_18 hk hi hr ?_
    obtain ⟨hk, h⟩ := h
    refine z_geti O zf_X15_210_12 dX15_disconnect_19 hk ?_
    refine z_if_ne O 27 dX15_disconnect_22 (by decide) (fun c => ?_) (fun c => ?_)
    · replace h := h.1 c
      refine z_aload_n O dX15_disconnect_27 rfl 0 rfl ?_
      refine z_aload_n O dX15_disconnect_28 rfl 0 rfl ?_
      obtain ⟨hk, b6, hr, h⟩ := h
      refine z_getr O zf_X15_21_14 dX15_disconnect_29 hk hr ?_
      refine z_iload_n O dX15_disconnect_32 rfl 1 rfl ?_
      obtain ⟨hk, hi, b7, hr, h⟩ := h
      refine z_ald (t := 8) O rfl dX15_disconnect_33 hk hi hr ?_
      obtain ⟨hk, h⟩ := h
      refine z_callV0 (As := [.ref b7]) O zc_X15_231 h hk rfl (zRm_of hR (by decide) (by decide)) (Nat.le_of_ble_eq_true rfl) dX15_disconnect_34 rfl rfl rfl (fun M8 v h => ?_)
      obtain ⟨rfl, h⟩ := h
      refine z_iconst (v := 1) O dX15_disconnect_37 rfl ?_
      exact z_zret O dX15_disconnect_38 (by decide) h
    · replace h := h.2 c
      refine z_iconst (v := 0) O dX15_disconnect_25 rfl ?_
      exact z_zret O dX15_disconnect_26 (by decide) h
set_option maxRecDepth 100000 in
set_option maxHeartbeats 4000000 in
theorem b_X15_mayOrder_0 {G : zG} {X : zX} (O : zOK G X cX15_mayOrder 5 RX15 (some .boolean) "mayOrder") (hR : X.R = rm_X15_mayOrder) {M : zM} {n k : Nat} {a0 : Nat} {x1 : Int32} {x2 : Int32} {x3 : Int32} {x4 : Int32} (h : M.1 a0 = 15 ∧ zC G yX15_isDevice cX15_isDevice 2 (some .boolean) rm_X15_isDevice M [.ref a0, .int x1] (fun M1 v => ∃ r2 : Int32, v = some (.int r2) ∧ (r2 = 0 → X.q M1 (some (.int 0))) ∧ (¬ r2 = 0 → M1.1 a0 = 15 ∧ ∃ b3 : Nat, M1.2.2.2 a0 8 = some b3 ∧ M1.1 b3 = 110 ∧ vp_in x1 (M1.2.1 b3) ∧ ∃ b4 : Nat, M1.2.2.2 b3 x1.toNatClampNeg = some b4 ∧ M1.1 b4 = 13 ∧ (¬ (M1.2.2.1 b4 18) = 1 → X.q M1 (some (.int 0))) ∧ ((M1.2.2.1 b4 18) = 1 → M1.1 a0 = 15 ∧ ∃ b5 : Nat, M1.2.2.2 a0 8 = some b5 ∧ M1.1 b5 = 110 ∧ vp_in x1 (M1.2.1 b5) ∧ ∃ b6 : Nat, M1.2.2.2 b5 x1.toNatClampNeg = some b6 ∧ M1.1 b6 = 13 ∧ ∃ b7 : Nat, M1.2.2.2 b6 2 = some b7 ∧ M1.1 b7 = 14 ∧ (8 ≤ (M1.2.2.1 b7 5) → X.q M1 (some (.int 0))) ∧ (¬ 8 ≤ (M1.2.2.1 b7 5) → zC G yX15_in cX15_in 3 (some .boolean) rm_X15_in M1 [.int x2, .int 0, .int 65535] (fun M8 v => ∃ r9 : Int32, v = some (.int r9) ∧ (r9 = 0 → X.q M8 (some (.int 0))) ∧ (¬ r9 = 0 → zC G yX15_in cX15_in 3 (some .boolean) rm_X15_in M8 [.int x3, .int 1, .int x4] (fun M10 v => ∃ r11 : Int32, v = some (.int r11) ∧ (r11 = 0 → X.q M10 (some (.int 0))) ∧ (¬ r11 = 0 → X.q M10 (some (.int 1))))))))))) : zW G X 5 M n k 0 [(0, .ref a0), (1, .int x1), (2, .int x2), (3, .int x3), (4, .int x4)] [] := by
  refine z_aload_n O dX15_mayOrder_0 rfl 0 rfl ?_
  refine z_iload_n O dX15_mayOrder_1 rfl 1 rfl ?_
  obtain ⟨hk, h⟩ := h
  refine z_callV0 (As := [.int x1]) O zc_X15_145 h hk rfl (zRm_of hR (by decide) (by decide)) (Nat.le_of_ble_eq_true rfl) dX15_mayOrder_2 rfl rfl rfl (fun M1 v h => ?_)
  obtain ⟨r2, rfl, h⟩ := h
  refine z_if_eq O 63 dX15_mayOrder_5 (by decide) (fun c => ?_) (fun c => ?_)
  · replace h := h.1 c
    refine z_iconst (v := 0) O dX15_mayOrder_63 rfl ?_
    exact z_zret O dX15_mayOrder_64 (by decide) h
  · replace h := h.2 c
    refine z_aload_n O dX15_mayOrder_8 rfl 0 rfl ?_
    obtain ⟨hk, b3, hr, h⟩ := h
    refine z_getr O zf_X15_21_14 dX15_mayOrder_9 hk hr ?_
    refine z_iload_n O dX15_mayOrder_12 rfl 1 rfl ?_
    obtain ⟨hk, hi, b4, hr, h⟩ := h
    refine z_ald (t := 8) O rfl dX15_mayOrder_13 hk hi hr ?_
    obtain ⟨hk, h⟩ := h
    refine z_geti O zf_X15_210_12 dX15_mayOrder_14 hk ?_
    refine z_iconst (v := 1) O dX15_mayOrder_17 rfl ?_
    refine z_icmp_ne O 63 dX15_mayOrder_18 (by decide) (fun c => ?_) (fun c => ?_)
    · replace h := h.1 c
      refine z_iconst (v := 0) O dX15_mayOrder_63 rfl ?_
      exact z_zret O dX15_mayOrder_64 (by decide) h
    · replace h := h.2 c
      refine z_aload_n O dX15_mayOrder_21 rfl 0 rfl ?_
      obtain ⟨hk, b5, hr, h⟩ := h
      refine z_getr O zf_X15_21_14 dX15_mayOrder_22 hk hr ?_
      refine z_iload_n O dX15_mayOrder_25 rfl 1 rfl ?_
      obtain ⟨hk, hi, b6, hr, h⟩ := h
      refine z_ald (t := 8) O rfl dX15_mayOrder_26 hk hi hr ?_
      obtain ⟨hk, b7, hr, h⟩ := h
      refine z_getr O zf_X15_155_12 dX15_mayOrder_27 hk hr ?_
      obtain ⟨hk, h⟩ := h
      refine z_geti O zf_X15_96_13 dX15_mayOrder_30 hk ?_
      refine z_bipush (v := 8) O dX15_mayOrder_33 rfl ?_
      refine z_icmp_ge O 63 dX15_mayOrder_35 (by decide) (fun c => ?_) (fun c => ?_)
      · replace h := h.1 c
        refine z_iconst (v := 0) O dX15_mayOrder_63 rfl ?_
        exact z_zret O dX15_mayOrder_64 (by decide) h
      · replace h := h.2 c
        refine z_iload_n O dX15_mayOrder_38 rfl 2 rfl ?_
        refine z_iconst (v := 0) O dX15_mayOrder_39 rfl ?_
        refine z_ldc_w O dX15_mayOrder_40 zk_X15_405 ?_
        refine z_callS0 (As := [.int x2, .int 0, .int 65535]) O zc_X15_135 h rfl (zRm_of hR (by decide) (by decide)) (Nat.le_of_ble_eq_true rfl) dX15_mayOrder_43 rfl rfl rfl (fun M8 v h => ?_)
        obtain ⟨r9, rfl, h⟩ := h
        refine z_if_eq O 63 dX15_mayOrder_46 (by decide) (fun c => ?_) (fun c => ?_)
        · replace h := h.1 c
          refine z_iconst (v := 0) O dX15_mayOrder_63 rfl ?_
          exact z_zret O dX15_mayOrder_64 (by decide) h
        · replace h := h.2 c
          refine z_iload_n O dX15_mayOrder_49 rfl 3 rfl ?_
          refine z_iconst (v := 1) O dX15_mayOrder_50 rfl ?_
          refine z_iload O dX15_mayOrder_51 4 rfl ?_
          refine z_callS0 (As := [.int x3, .int 1, .int x4]) O zc_X15_135 h rfl (zRm_of hR (by decide) (by decide)) (Nat.le_of_ble_eq_true rfl) dX15_mayOrder_53 rfl rfl rfl (fun M10 v h => ?_)
          obtain ⟨r11, rfl, h⟩ := h
          refine z_if_eq O 63 dX15_mayOrder_56 (by decide) (fun c => ?_) (fun c => ?_)
          · replace h := h.1 c
            refine z_iconst (v := 0) O dX15_mayOrder_63 rfl ?_
            exact z_zret O dX15_mayOrder_64 (by decide) h
          · replace h := h.2 c
            refine z_iconst (v := 1) O dX15_mayOrder_59 rfl ?_
            refine z_goto O 64 dX15_mayOrder_60 (by decide) ?_
            exact z_zret O dX15_mayOrder_64 (by decide) h
set_option maxRecDepth 100000 in
set_option maxHeartbeats 4000000 in
theorem b_X15_peek_0 {G : zG} {X : zX} (O : zOK G X cX15_peek 4 RX15 (some .boolean) "peek") (hR : X.R = rm_X15_peek) {M : zM} {n k : Nat} {a0 : Nat} {x1 : Int32} {x2 : Int32} {x3 : Int32} (h : M.1 a0 = 15 ∧ ∀ M1 : zM, M1 = zi M a0 0 0 → M1.1 a0 = 15 ∧ zC G yX15_mayOrder cX15_mayOrder 5 (some .boolean) rm_X15_mayOrder M1 [.ref a0, .int x1, .int x2, .int x3, .int 12] (fun M2 v => ∃ r3 : Int32, v = some (.int r3) ∧ (¬ r3 = 0 → M2.1 a0 = 15 ∧ ∃ b4 : Nat, M2.2.2.2 a0 37 = some b4 ∧ M2.1 b4 = 100 ∧ vp_in (1 : Int32) (M2.2.1 b4) ∧ ∀ M5 : zM, M5 = zi M2 b4 ((1 : Int32).toNatClampNeg) x3 → M5.1 a0 = 15 ∧ ∃ b6 : Nat, M5.2.2.2 a0 37 = some b6 ∧ M5.1 b6 = 100 ∧ vp_in (2 : Int32) (M5.2.1 b6) ∧ ∀ M7 : zM, M7 = zi M5 b6 ((2 : Int32).toNatClampNeg) (x2 / 256) → M7.1 a0 = 15 ∧ ∃ b8 : Nat, M7.2.2.2 a0 37 = some b8 ∧ M7.1 b8 = 100 ∧ vp_in (3 : Int32) (M7.2.1 b8) ∧ ∀ M9 : zM, M9 = zi M7 b8 ((3 : Int32).toNatClampNeg) (x2 - x2 / 256 * 256) → M9.1 a0 = 15 ∧ ∃ b10 : Nat, M9.2.2.2 a0 8 = some b10 ∧ M9.1 b10 = 110 ∧ vp_in x1 (M9.2.1 b10) ∧ ∃ b11 : Nat, M9.2.2.2 b10 x1.toNatClampNeg = some b11 ∧ M9.1 a0 = 15 ∧ ∃ b12 : Nat, M9.2.2.2 a0 37 = some b12 ∧ M9.1 a0 = 15 ∧ zC G yX15_sendsData cX15_sendsData 5 none rm_X15_sendsData M9 [.ref a0, .ref b11, .ref b12, .int 4] (fun M13 v => v = none ∧ X.q M13 (some (.int 1)))) ∧ (r3 = 0 → X.q M2 (some (.int 0))))) : zW G X 4 M n k 0 [(0, .ref a0), (1, .int x1), (2, .int x2), (3, .int x3)] [] := by
  refine z_aload_n O dX15_peek_0 rfl 0 rfl ?_
  refine z_iconst (v := 0) O dX15_peek_1 rfl ?_
  obtain ⟨hk, h⟩ := h
  refine z_puti O zp_X15_93_14 dX15_peek_2 hk ?_
  generalize eM1 : zi M a0 0 0 = M1
  replace h := h M1 eM1.symm
  refine z_aload_n O dX15_peek_5 rfl 0 rfl ?_
  refine z_iload_n O dX15_peek_6 rfl 1 rfl ?_
  refine z_iload_n O dX15_peek_7 rfl 2 rfl ?_
  refine z_iload_n O dX15_peek_8 rfl 3 rfl ?_
  refine z_bipush (v := 12) O dX15_peek_9 rfl ?_
  obtain ⟨hk, h⟩ := h
  refine z_callV0 (As := [.int x1, .int x2, .int x3, .int 12]) O zc_X15_429 h hk rfl (zRm_of hR (by decide) (by decide)) (Nat.le_of_ble_eq_true rfl) dX15_peek_11 rfl rfl rfl (fun M2 v h => ?_)
  obtain ⟨r3, rfl, h⟩ := h
  refine z_if_ne O 19 dX15_peek_14 (by decide) (fun c => ?_) (fun c => ?_)
  · replace h := h.1 c
    refine z_aload_n O dX15_peek_19 rfl 0 rfl ?_
    obtain ⟨hk, b4, hr, h⟩ := h
    refine z_getr O zf_X15_84_14 dX15_peek_20 hk hr ?_
    refine z_iconst (v := 1) O dX15_peek_23 rfl ?_
    refine z_iload_n O dX15_peek_24 rfl 3 rfl ?_
    obtain ⟨hk, hi, h⟩ := h
    refine z_iast O dX15_peek_25 hk hi ?_
    generalize eM5 : zi M2 b4 ((1 : Int32).toNatClampNeg) x3 = M5
    replace h := h M5 eM5.symm
    refine z_aload_n O dX15_peek_26 rfl 0 rfl ?_
    obtain ⟨hk, b6, hr, h⟩ := h
    refine z_getr O zf_X15_84_14 dX15_peek_27 hk hr ?_
    refine z_iconst (v := 2) O dX15_peek_30 rfl ?_
    refine z_iload_n O dX15_peek_31 rfl 2 rfl ?_
    refine z_sipush (v := 256) O dX15_peek_32 rfl ?_
    refine z_idiv O dX15_peek_35 (by decide) ?_
    obtain ⟨hk, hi, h⟩ := h
    refine z_iast O dX15_peek_36 hk hi ?_
    generalize eM7 : zi M5 b6 ((2 : Int32).toNatClampNeg) (x2 / 256) = M7
    replace h := h M7 eM7.symm
    refine z_aload_n O dX15_peek_37 rfl 0 rfl ?_
    obtain ⟨hk, b8, hr, h⟩ := h
    refine z_getr O zf_X15_84_14 dX15_peek_38 hk hr ?_
    refine z_iconst (v := 3) O dX15_peek_41 rfl ?_
    refine z_iload_n O dX15_peek_42 rfl 2 rfl ?_
    refine z_sipush (v := 256) O dX15_peek_43 rfl ?_
    refine z_irem O dX15_peek_46 (by decide) ?_
    obtain ⟨hk, hi, h⟩ := h
    refine z_iast O dX15_peek_47 hk hi ?_
    generalize eM9 : zi M7 b8 ((3 : Int32).toNatClampNeg) (x2 - x2 / 256 * 256) = M9
    replace h := h M9 eM9.symm
    refine z_aload_n O dX15_peek_48 rfl 0 rfl ?_
    refine z_aload_n O dX15_peek_49 rfl 0 rfl ?_
    obtain ⟨hk, b10, hr, h⟩ := h
    refine z_getr O zf_X15_21_14 dX15_peek_50 hk hr ?_
    refine z_iload_n O dX15_peek_53 rfl 1 rfl ?_
    obtain ⟨hk, hi, b11, hr, h⟩ := h
    refine z_ald (t := 8) O rfl dX15_peek_54 hk hi hr ?_
    refine z_aload_n O dX15_peek_55 rfl 0 rfl ?_
    obtain ⟨hk, b12, hr, h⟩ := h
    refine z_getr O zf_X15_84_14 dX15_peek_56 hk hr ?_
    refine z_iconst (v := 4) O dX15_peek_59 rfl ?_
    obtain ⟨hk, h⟩ := h
    refine z_callV0 (As := [.ref b11, .ref b12, .int 4]) O zc_X15_259 h hk rfl (zRm_of hR (by decide) (by decide)) (Nat.le_of_ble_eq_true rfl) dX15_peek_60 rfl rfl rfl (fun M13 v h => ?_)
    obtain ⟨rfl, h⟩ := h
    refine z_iconst (v := 1) O dX15_peek_63 rfl ?_
    exact z_zret O dX15_peek_64 (by decide) h
  · replace h := h.2 c
    refine z_iconst (v := 0) O dX15_peek_17 rfl ?_
    exact z_zret O dX15_peek_18 (by decide) h
set_option maxRecDepth 100000 in
set_option maxHeartbeats 4000000 in
theorem b_X15_poke_0 {G : zG} {X : zX} (O : zOK G X cX15_poke 6 RX15 (some .boolean) "poke") (hR : X.R = rm_X15_poke) {M : zM} {n k : Nat} {a0 : Nat} {x1 : Int32} {x2 : Int32} {x3 : Int32} {x4 : Int32} (h : M.1 a0 = 15 ∧ ∀ M1 : zM, M1 = zi M a0 0 0 → M1.1 a0 = 15 ∧ zC G yX15_mayOrder cX15_mayOrder 5 (some .boolean) rm_X15_mayOrder M1 [.ref a0, .int x1, .int x2, .int x3, .int 4] (fun M2 v => ∃ r3 : Int32, v = some (.int r3) ∧ (¬ r3 = 0 → M2.1 a0 = 15 ∧ ∃ b4 : Nat, M2.2.2.2 a0 37 = some b4 ∧ M2.1 b4 = 100 ∧ vp_in (1 : Int32) (M2.2.1 b4) ∧ ∀ M5 : zM, M5 = zi M2 b4 ((1 : Int32).toNatClampNeg) (128 + x3) → M5.1 a0 = 15 ∧ ∃ b6 : Nat, M5.2.2.2 a0 37 = some b6 ∧ M5.1 b6 = 100 ∧ vp_in (2 : Int32) (M5.2.1 b6) ∧ ∀ M7 : zM, M7 = zi M5 b6 ((2 : Int32).toNatClampNeg) (x2 / 256) → M7.1 a0 = 15 ∧ ∃ b8 : Nat, M7.2.2.2 a0 37 = some b8 ∧ M7.1 b8 = 100 ∧ vp_in (3 : Int32) (M7.2.1 b8) ∧ ∀ M9 : zM, M9 = zi M7 b8 ((3 : Int32).toNatClampNeg) (x2 - x2 / 256 * 256) → zW G X 6 M9 n k 54 [(0, .ref a0), (1, .int x1), (3, .int x3), (4, .int x4), (5, .int 0)] []) ∧ (r3 = 0 → X.q M2 (some (.int 0))))) : zW G X 6 M n k 0 [(0, .ref a0), (1, .int x1), (2, .int x2), (3, .int x3), (4, .int x4)] [] := by
  refine z_aload_n O dX15_poke_0 rfl 0 rfl ?_
  refine z_iconst (v := 0) O dX15_poke_1 rfl ?_
  obtain ⟨hk, h⟩ := h
  refine z_puti O zp_X15_93_14 dX15_poke_2 hk ?_
  generalize eM1 : zi M a0 0 0 = M1
  replace h := h M1 eM1.symm
  refine z_aload_n O dX15_poke_5 rfl 0 rfl ?_
  refine z_iload_n O dX15_poke_6 rfl 1 rfl ?_
  refine z_iload_n O dX15_poke_7 rfl 2 rfl ?_
  refine z_iload_n O dX15_poke_8 rfl 3 rfl ?_
  refine z_iconst (v := 4) O dX15_poke_9 rfl ?_
  obtain ⟨hk, h⟩ := h
  refine z_callV0 (As := [.int x1, .int x2, .int x3, .int 4]) O zc_X15_429 h hk rfl (zRm_of hR (by decide) (by decide)) (Nat.le_of_ble_eq_true rfl) dX15_poke_10 rfl rfl rfl (fun M2 v h => ?_)
  obtain ⟨r3, rfl, h⟩ := h
  refine z_if_ne O 18 dX15_poke_13 (by decide) (fun c => ?_) (fun c => ?_)
  · replace h := h.1 c
    refine z_aload_n O dX15_poke_18 rfl 0 rfl ?_
    obtain ⟨hk, b4, hr, h⟩ := h
    refine z_getr O zf_X15_84_14 dX15_poke_19 hk hr ?_
    refine z_iconst (v := 1) O dX15_poke_22 rfl ?_
    refine z_sipush (v := 128) O dX15_poke_23 rfl ?_
    refine z_iload_n O dX15_poke_26 rfl 3 rfl ?_
    refine z_iadd O dX15_poke_27 ?_
    obtain ⟨hk, hi, h⟩ := h
    refine z_iast O dX15_poke_28 hk hi ?_
    generalize eM5 : zi M2 b4 ((1 : Int32).toNatClampNeg) (128 + x3) = M5
    replace h := h M5 eM5.symm
    refine z_aload_n O dX15_poke_29 rfl 0 rfl ?_
    obtain ⟨hk, b6, hr, h⟩ := h
    refine z_getr O zf_X15_84_14 dX15_poke_30 hk hr ?_
    refine z_iconst (v := 2) O dX15_poke_33 rfl ?_
    refine z_iload_n O dX15_poke_34 rfl 2 rfl ?_
    refine z_sipush (v := 256) O dX15_poke_35 rfl ?_
    refine z_idiv O dX15_poke_38 (by decide) ?_
    obtain ⟨hk, hi, h⟩ := h
    refine z_iast O dX15_poke_39 hk hi ?_
    generalize eM7 : zi M5 b6 ((2 : Int32).toNatClampNeg) (x2 / 256) = M7
    replace h := h M7 eM7.symm
    refine z_aload_n O dX15_poke_40 rfl 0 rfl ?_
    obtain ⟨hk, b8, hr, h⟩ := h
    refine z_getr O zf_X15_84_14 dX15_poke_41 hk hr ?_
    refine z_iconst (v := 3) O dX15_poke_44 rfl ?_
    refine z_iload_n O dX15_poke_45 rfl 2 rfl ?_
    refine z_sipush (v := 256) O dX15_poke_46 rfl ?_
    refine z_irem O dX15_poke_49 (by decide) ?_
    obtain ⟨hk, hi, h⟩ := h
    refine z_iast O dX15_poke_50 hk hi ?_
    generalize eM9 : zi M7 b8 ((3 : Int32).toNatClampNeg) (x2 - x2 / 256 * 256) = M9
    replace h := h M9 eM9.symm
    refine z_iconst (v := 0) O dX15_poke_51 rfl ?_
    refine z_istore (lv' := [(5, .int 0), (0, .ref a0), (1, .int x1), (2, .int x2), (3, .int x3), (4, .int x4)]) O dX15_poke_52 (by decide) rfl ?_
    exact z_to [1, 2, 4, 5, 0] rfl h
  · replace h := h.2 c
    refine z_iconst (v := 0) O dX15_poke_16 rfl ?_
    exact z_zret O dX15_poke_17 (by decide) h
set_option maxRecDepth 100000 in
set_option maxHeartbeats 4000000 in
theorem b_X15_poke_54 {G : zG} {X : zX} (O : zOK G X cX15_poke 6 RX15 (some .boolean) "poke") (hR : X.R = rm_X15_poke) {M : zM} {n k : Nat} {a0 : Nat} {x1 : Int32} {x3 : Int32} {x4 : Int32} {x5 : Int32} (h : (x3 ≤ x5 → M.1 a0 = 15 ∧ ∃ b1 : Nat, M.2.2.2 a0 8 = some b1 ∧ M.1 b1 = 110 ∧ vp_in x1 (M.2.1 b1) ∧ ∃ b2 : Nat, M.2.2.2 b1 x1.toNatClampNeg = some b2 ∧ M.1 a0 = 15 ∧ ∃ b3 : Nat, M.2.2.2 a0 37 = some b3 ∧ M.1 a0 = 15 ∧ zC G yX15_sendsData cX15_sendsData 5 none rm_X15_sendsData M [.ref a0, .ref b2, .ref b3, .int (4 + x3)] (fun M4 v => v = none ∧ X.q M4 (some (.int 1)))) ∧ (¬ x3 ≤ x5 → M.1 a0 = 15 ∧ ∃ b5 : Nat, M.2.2.2 a0 37 = some b5 ∧ M.1 b5 = 100 ∧ vp_in ((4 + x5)) (M.2.1 b5) ∧ ∀ M6 : zM, M6 = zi M b5 (((4 + x5)).toNatClampNeg) ((x4 >>> ((8 * ((x3 - 1) - x5)) &&& 31)) &&& 255) → ∀ y7 : Int32, y7 = x5 + 1 → zW G X 6 M6 n k 54 [(0, .ref a0), (1, .int x1), (3, .int x3), (4, .int x4), (5, .int y7)] [])) : zW G X 6 M n k 54 [(0, .ref a0), (1, .int x1), (3, .int x3), (4, .int x4), (5, .int x5)] [] := by
  refine z_iload O dX15_poke_54 4 rfl ?_
  refine z_iload_n O dX15_poke_56 rfl 2 rfl ?_
  refine z_icmp_ge O 91 dX15_poke_57 (by decide) (fun c => ?_) (fun c => ?_)
  · replace h := h.1 c
    refine z_aload_n O dX15_poke_91 rfl 0 rfl ?_
    refine z_aload_n O dX15_poke_92 rfl 0 rfl ?_
    obtain ⟨hk, b1, hr, h⟩ := h
    refine z_getr O zf_X15_21_14 dX15_poke_93 hk hr ?_
    refine z_iload_n O dX15_poke_96 rfl 1 rfl ?_
    obtain ⟨hk, hi, b2, hr, h⟩ := h
    refine z_ald (t := 8) O rfl dX15_poke_97 hk hi hr ?_
    refine z_aload_n O dX15_poke_98 rfl 0 rfl ?_
    obtain ⟨hk, b3, hr, h⟩ := h
    refine z_getr O zf_X15_84_14 dX15_poke_99 hk hr ?_
    refine z_iconst (v := 4) O dX15_poke_102 rfl ?_
    refine z_iload_n O dX15_poke_103 rfl 2 rfl ?_
    refine z_iadd O dX15_poke_104 ?_
    obtain ⟨hk, h⟩ := h
    refine z_callV0 (As := [.ref b2, .ref b3, .int (4 + x3)]) O zc_X15_259 h hk rfl (zRm_of hR (by decide) (by decide)) (Nat.le_of_ble_eq_true rfl) dX15_poke_105 rfl rfl rfl (fun M4 v h => ?_)
    obtain ⟨rfl, h⟩ := h
    refine z_iconst (v := 1) O dX15_poke_108 rfl ?_
    exact z_zret O dX15_poke_109 (by decide) h
  · replace h := h.2 c
    refine z_aload_n O dX15_poke_60 rfl 0 rfl ?_
    obtain ⟨hk, b5, hr, h⟩ := h
    refine z_getr O zf_X15_84_14 dX15_poke_61 hk hr ?_
    refine z_iconst (v := 4) O dX15_poke_64 rfl ?_
    refine z_iload O dX15_poke_65 4 rfl ?_
    refine z_iadd O dX15_poke_67 ?_
    refine z_iload O dX15_poke_68 3 rfl ?_
    refine z_bipush (v := 8) O dX15_poke_70 rfl ?_
    refine z_iload_n O dX15_poke_72 rfl 2 rfl ?_
    refine z_iconst (v := 1) O dX15_poke_73 rfl ?_
    refine z_isub O dX15_poke_74 ?_
    refine z_iload O dX15_poke_75 4 rfl ?_
    refine z_isub O dX15_poke_77 ?_
    refine z_imul O dX15_poke_78 ?_
    refine z_ishr O dX15_poke_79 ?_
    refine z_sipush (v := 255) O dX15_poke_80 rfl ?_
    refine z_iand O dX15_poke_83 ?_
    obtain ⟨hk, hi, h⟩ := h
    refine z_iast O dX15_poke_84 hk hi ?_
    generalize eM6 : zi M b5 (((4 + x5)).toNatClampNeg) ((x4 >>> ((8 * ((x3 - 1) - x5)) &&& 31)) &&& 255) = M6
    replace h := h M6 eM6.symm
    obtain ⟨y7, ey7⟩ : ∃ y : Int32, y = x5 + 1 := ⟨_, rfl⟩
    replace h := h y7 ey7
    refine z_iinc (v := y7) (lv' := [(5, .int y7), (0, .ref a0), (1, .int x1), (3, .int x3), (4, .int x4)]) O dX15_poke_85 (q := 4) rfl (by rw [ey7]; rfl) (by decide) rfl ?_
    refine z_goto O 54 dX15_poke_88 (by decide) ?_
    exact z_to [1, 2, 3, 4, 0] rfl h
set_option maxRecDepth 100000 in
set_option maxHeartbeats 4000000 in
theorem b_X15_memory_0 {G : zG} {X : zX} (O : zOK G X cX15_memory 3 RX15 (some .int) "memory") (hR : X.R = rm_X15_memory) {M : zM} {n k : Nat} {a0 : Nat} {x1 : Int32} {x2 : Int32} (h : M.1 a0 = 15 ∧ ∀ M1 : zM, M1 = zi M a0 0 0 → M1.1 a0 = 15 ∧ zC G yX15_isDevice cX15_isDevice 2 (some .boolean) rm_X15_isDevice M1 [.ref a0, .int x1] (fun M2 v => ∃ r3 : Int32, v = some (.int r3) ∧ (r3 = 0 → X.q M2 (some (.int (-1)))) ∧ (¬ r3 = 0 → zC G yX15_in cX15_in 3 (some .boolean) rm_X15_in M2 [.int x2, .int 0, .int 63] (fun M4 v => ∃ r5 : Int32, v = some (.int r5) ∧ (r5 = 0 → X.q M4 (some (.int (-1)))) ∧ (¬ r5 = 0 → M4.1 a0 = 15 ∧ ∃ b6 : Nat, M4.2.2.2 a0 8 = some b6 ∧ M4.1 b6 = 110 ∧ vp_in x1 (M4.2.1 b6) ∧ ∃ b7 : Nat, M4.2.2.2 b6 x1.toNatClampNeg = some b7 ∧ M4.1 b7 = 13 ∧ ∃ b8 : Nat, M4.2.2.2 b7 15 = some b8 ∧ M4.1 b8 = 100 ∧ vp_in x2 (M4.2.1 b8) ∧ X.q M4 (some (.int (M4.2.2.1 b8 x2.toNatClampNeg)))))))) : zW G X 3 M n k 0 [(0, .ref a0), (1, .int x1), (2, .int x2)] [] := by
  refine z_aload_n O dX15_memory_0 rfl 0 rfl ?_
  refine z_iconst (v := 0) O dX15_memory_1 rfl ?_
  obtain ⟨hk, h⟩ := h
  refine z_puti O zp_X15_93_14 dX15_memory_2 hk ?_
  generalize eM1 : zi M a0 0 0 = M1
  replace h := h M1 eM1.symm
  refine z_aload_n O dX15_memory_5 rfl 0 rfl ?_
  refine z_iload_n O dX15_memory_6 rfl 1 rfl ?_
  obtain ⟨hk, h⟩ := h
  refine z_callV0 (As := [.int x1]) O zc_X15_145 h hk rfl (zRm_of hR (by decide) (by decide)) (Nat.le_of_ble_eq_true rfl) dX15_memory_7 rfl rfl rfl (fun M2 v h => ?_)
  obtain ⟨r3, rfl, h⟩ := h
  refine z_if_eq O 37 dX15_memory_10 (by decide) (fun c => ?_) (fun c => ?_)
  · replace h := h.1 c
    refine z_iconst (v := (-1)) O dX15_memory_37 rfl ?_
    exact z_iret O dX15_memory_38 h
  · replace h := h.2 c
    refine z_iload_n O dX15_memory_13 rfl 2 rfl ?_
    refine z_iconst (v := 0) O dX15_memory_14 rfl ?_
    refine z_bipush (v := 63) O dX15_memory_15 rfl ?_
    refine z_callS0 (As := [.int x2, .int 0, .int 63]) O zc_X15_135 h rfl (zRm_of hR (by decide) (by decide)) (Nat.le_of_ble_eq_true rfl) dX15_memory_17 rfl rfl rfl (fun M4 v h => ?_)
    obtain ⟨r5, rfl, h⟩ := h
    refine z_if_eq O 37 dX15_memory_20 (by decide) (fun c => ?_) (fun c => ?_)
    · replace h := h.1 c
      refine z_iconst (v := (-1)) O dX15_memory_37 rfl ?_
      exact z_iret O dX15_memory_38 h
    · replace h := h.2 c
      refine z_aload_n O dX15_memory_23 rfl 0 rfl ?_
      obtain ⟨hk, b6, hr, h⟩ := h
      refine z_getr O zf_X15_21_14 dX15_memory_24 hk hr ?_
      refine z_iload_n O dX15_memory_27 rfl 1 rfl ?_
      obtain ⟨hk, hi, b7, hr, h⟩ := h
      refine z_ald (t := 8) O rfl dX15_memory_28 hk hi hr ?_
      obtain ⟨hk, b8, hr, h⟩ := h
      refine z_getr O zf_X15_256_12 dX15_memory_29 hk hr ?_
      refine z_iload_n O dX15_memory_32 rfl 2 rfl ?_
      obtain ⟨hk, hi, h⟩ := h
      refine z_iald O dX15_memory_33 hk hi ?_
      refine z_goto O 38 dX15_memory_34 (by decide) ?_
      exact z_iret O dX15_memory_38 h
set_option maxRecDepth 100000 in
set_option maxHeartbeats 4000000 in
theorem b_X15_store_0 {G : zG} {X : zX} (O : zOK G X cX15_store 4 RX15 (some .boolean) "store") (hR : X.R = rm_X15_store) {M : zM} {n k : Nat} {a0 : Nat} {x1 : Int32} {x2 : Int32} {x3 : Int32} (h : M.1 a0 = 15 ∧ ∀ M1 : zM, M1 = zi M a0 0 0 → M1.1 a0 = 15 ∧ zC G yX15_isDevice cX15_isDevice 2 (some .boolean) rm_X15_isDevice M1 [.ref a0, .int x1] (fun M2 v => ∃ r3 : Int32, v = some (.int r3) ∧ (r3 = 0 → X.q M2 (some (.int 0))) ∧ (¬ r3 = 0 → zC G yX15_in cX15_in 3 (some .boolean) rm_X15_in M2 [.int x2, .int 0, .int 63] (fun M4 v => ∃ r5 : Int32, v = some (.int r5) ∧ (¬ r5 = 0 → M4.1 a0 = 15 ∧ ∃ b6 : Nat, M4.2.2.2 a0 8 = some b6 ∧ M4.1 b6 = 110 ∧ vp_in x1 (M4.2.1 b6) ∧ ∃ b7 : Nat, M4.2.2.2 b6 x1.toNatClampNeg = some b7 ∧ M4.1 b7 = 13 ∧ ∃ b8 : Nat, M4.2.2.2 b7 15 = some b8 ∧ M4.1 b8 = 100 ∧ vp_in x2 (M4.2.1 b8) ∧ ∀ M9 : zM, M9 = zi M4 b8 (x2.toNatClampNeg) (x3 &&& 255) → X.q M9 (some (.int 1))) ∧ (r5 = 0 → X.q M4 (some (.int 0))))))) : zW G X 4 M n k 0 [(0, .ref a0), (1, .int x1), (2, .int x2), (3, .int x3)] [] := by
  refine z_aload_n O dX15_store_0 rfl 0 rfl ?_
  refine z_iconst (v := 0) O dX15_store_1 rfl ?_
  obtain ⟨hk, h⟩ := h
  refine z_puti O zp_X15_93_14 dX15_store_2 hk ?_
  generalize eM1 : zi M a0 0 0 = M1
  replace h := h M1 eM1.symm
  refine z_aload_n O dX15_store_5 rfl 0 rfl ?_
  refine z_iload_n O dX15_store_6 rfl 1 rfl ?_
  obtain ⟨hk, h⟩ := h
  refine z_callV0 (As := [.int x1]) O zc_X15_145 h hk rfl (zRm_of hR (by decide) (by decide)) (Nat.le_of_ble_eq_true rfl) dX15_store_7 rfl rfl rfl (fun M2 v h => ?_)
  obtain ⟨r3, rfl, h⟩ := h
  refine z_if_eq O 23 dX15_store_10 (by decide) (fun c => ?_) (fun c => ?_)
  · replace h := h.1 c
    refine z_iconst (v := 0) O dX15_store_23 rfl ?_
    exact z_zret O dX15_store_24 (by decide) h
  · replace h := h.2 c
    refine z_iload_n O dX15_store_13 rfl 2 rfl ?_
    refine z_iconst (v := 0) O dX15_store_14 rfl ?_
    refine z_bipush (v := 63) O dX15_store_15 rfl ?_
    refine z_callS0 (As := [.int x2, .int 0, .int 63]) O zc_X15_135 h rfl (zRm_of hR (by decide) (by decide)) (Nat.le_of_ble_eq_true rfl) dX15_store_17 rfl rfl rfl (fun M4 v h => ?_)
    obtain ⟨r5, rfl, h⟩ := h
    refine z_if_ne O 25 dX15_store_20 (by decide) (fun c => ?_) (fun c => ?_)
    · replace h := h.1 c
      refine z_aload_n O dX15_store_25 rfl 0 rfl ?_
      obtain ⟨hk, b6, hr, h⟩ := h
      refine z_getr O zf_X15_21_14 dX15_store_26 hk hr ?_
      refine z_iload_n O dX15_store_29 rfl 1 rfl ?_
      obtain ⟨hk, hi, b7, hr, h⟩ := h
      refine z_ald (t := 8) O rfl dX15_store_30 hk hi hr ?_
      obtain ⟨hk, b8, hr, h⟩ := h
      refine z_getr O zf_X15_256_12 dX15_store_31 hk hr ?_
      refine z_iload_n O dX15_store_34 rfl 2 rfl ?_
      refine z_iload_n O dX15_store_35 rfl 3 rfl ?_
      refine z_sipush (v := 255) O dX15_store_36 rfl ?_
      refine z_iand O dX15_store_39 ?_
      obtain ⟨hk, hi, h⟩ := h
      refine z_iast O dX15_store_40 hk hi ?_
      generalize eM9 : zi M4 b8 (x2.toNatClampNeg) (x3 &&& 255) = M9
      replace h := h M9 eM9.symm
      refine z_iconst (v := 1) O dX15_store_41 rfl ?_
      exact z_zret O dX15_store_42 (by decide) h
    · replace h := h.2 c
      refine z_iconst (v := 0) O dX15_store_23 rfl ?_
      exact z_zret O dX15_store_24 (by decide) h
set_option maxRecDepth 100000 in
set_option maxHeartbeats 4000000 in
theorem b_X15_reply_0 {G : zG} {X : zX} (O : zOK G X cX15_reply 3 RX15 (some .int) "reply") (hR : X.R = rm_X15_reply) {M : zM} {n k : Nat} {a0 : Nat} {x1 : Int32} {x2 : Int32} (h : M.1 a0 = 15 ∧ ∀ M1 : zM, M1 = zi M a0 0 0 → M1.1 a0 = 15 ∧ zC G yX15_isDevice cX15_isDevice 2 (some .boolean) rm_X15_isDevice M1 [.ref a0, .int x1] (fun M2 v => ∃ r3 : Int32, v = some (.int r3) ∧ (¬ r3 = 0 → (¬ x2 = (-1) → M2.1 a0 = 15 ∧ ∃ b4 : Nat, M2.2.2.2 a0 8 = some b4 ∧ M2.1 b4 = 110 ∧ vp_in x1 (M2.2.1 b4) ∧ ∃ b5 : Nat, M2.2.2.2 b4 x1.toNatClampNeg = some b5 ∧ M2.1 b5 = 13 ∧ zC G yX15_in cX15_in 3 (some .boolean) rm_X15_in M2 [.int x2, .int 0, .int ((M2.2.2.1 b5 17) - 1)] (fun M6 v => ∃ r7 : Int32, v = some (.int r7) ∧ (r7 = 0 → X.q M6 (some (.int (-1)))) ∧ (¬ r7 = 0 → M6.1 a0 = 15 ∧ ∃ b8 : Nat, M6.2.2.2 a0 8 = some b8 ∧ M6.1 b8 = 110 ∧ vp_in x1 (M6.2.1 b8) ∧ ∃ b9 : Nat, M6.2.2.2 b8 x1.toNatClampNeg = some b9 ∧ M6.1 b9 = 13 ∧ ∃ b10 : Nat, M6.2.2.2 b9 16 = some b10 ∧ M6.1 b10 = 100 ∧ vp_in x2 (M6.2.1 b10) ∧ X.q M6 (some (.int (M6.2.2.1 b10 x2.toNatClampNeg)))))) ∧ (x2 = (-1) → M2.1 a0 = 15 ∧ ∃ b11 : Nat, M2.2.2.2 a0 8 = some b11 ∧ M2.1 b11 = 110 ∧ vp_in x1 (M2.2.1 b11) ∧ ∃ b12 : Nat, M2.2.2.2 b11 x1.toNatClampNeg = some b12 ∧ M2.1 b12 = 13 ∧ X.q M2 (some (.int (M2.2.2.1 b12 17))))) ∧ (r3 = 0 → X.q M2 (some (.int (-1)))))) : zW G X 3 M n k 0 [(0, .ref a0), (1, .int x1), (2, .int x2)] [] := by
  refine z_aload_n O dX15_reply_0 rfl 0 rfl ?_
  refine z_iconst (v := 0) O dX15_reply_1 rfl ?_
  obtain ⟨hk, h⟩ := h
  refine z_puti O zp_X15_93_14 dX15_reply_2 hk ?_
  generalize eM1 : zi M a0 0 0 = M1
  replace h := h M1 eM1.symm
  refine z_aload_n O dX15_reply_5 rfl 0 rfl ?_
  refine z_iload_n O dX15_reply_6 rfl 1 rfl ?_
  obtain ⟨hk, h⟩ := h
  refine z_callV0 (As := [.int x1]) O zc_X15_145 h hk rfl (zRm_of hR (by decide) (by decide)) (Nat.le_of_ble_eq_true rfl) dX15_reply_7 rfl rfl rfl (fun M2 v h => ?_)
  obtain ⟨r3, rfl, h⟩ := h
  refine z_if_ne O 15 dX15_reply_10 (by decide) (fun c => ?_) (fun c => ?_)
  · replace h := h.1 c
    refine z_iload_n O dX15_reply_15 rfl 2 rfl ?_
    refine z_iconst (v := (-1)) O dX15_reply_16 rfl ?_
    refine z_icmp_ne O 32 dX15_reply_17 (by decide) (fun c => ?_) (fun c => ?_)
    · replace h := h.1 c
      refine z_iload_n O dX15_reply_32 rfl 2 rfl ?_
      refine z_iconst (v := 0) O dX15_reply_33 rfl ?_
      refine z_aload_n O dX15_reply_34 rfl 0 rfl ?_
      obtain ⟨hk, b4, hr, h⟩ := h
      refine z_getr O zf_X15_21_14 dX15_reply_35 hk hr ?_
      refine z_iload_n O dX15_reply_38 rfl 1 rfl ?_
      obtain ⟨hk, hi, b5, hr, h⟩ := h
      refine z_ald (t := 8) O rfl dX15_reply_39 hk hi hr ?_
      obtain ⟨hk, h⟩ := h
      refine z_geti O zf_X15_262_12 dX15_reply_40 hk ?_
      refine z_iconst (v := 1) O dX15_reply_43 rfl ?_
      refine z_isub O dX15_reply_44 ?_
      refine z_callS0 (As := [.int x2, .int 0, .int ((M2.2.2.1 b5 17) - 1)]) O zc_X15_135 h rfl (zRm_of hR (by decide) (by decide)) (Nat.le_of_ble_eq_true rfl) dX15_reply_45 rfl rfl rfl (fun M6 v h => ?_)
      obtain ⟨r7, rfl, h⟩ := h
      refine z_if_eq O 65 dX15_reply_48 (by decide) (fun c => ?_) (fun c => ?_)
      · replace h := h.1 c
        refine z_iconst (v := (-1)) O dX15_reply_65 rfl ?_
        exact z_iret O dX15_reply_66 h
      · replace h := h.2 c
        refine z_aload_n O dX15_reply_51 rfl 0 rfl ?_
        obtain ⟨hk, b8, hr, h⟩ := h
        refine z_getr O zf_X15_21_14 dX15_reply_52 hk hr ?_
        refine z_iload_n O dX15_reply_55 rfl 1 rfl ?_
        obtain ⟨hk, hi, b9, hr, h⟩ := h
        refine z_ald (t := 8) O rfl dX15_reply_56 hk hi hr ?_
        obtain ⟨hk, b10, hr, h⟩ := h
        refine z_getr O zf_X15_265_12 dX15_reply_57 hk hr ?_
        refine z_iload_n O dX15_reply_60 rfl 2 rfl ?_
        obtain ⟨hk, hi, h⟩ := h
        refine z_iald O dX15_reply_61 hk hi ?_
        refine z_goto O 66 dX15_reply_62 (by decide) ?_
        exact z_iret O dX15_reply_66 h
    · replace h := h.2 c
      refine z_aload_n O dX15_reply_20 rfl 0 rfl ?_
      obtain ⟨hk, b11, hr, h⟩ := h
      refine z_getr O zf_X15_21_14 dX15_reply_21 hk hr ?_
      refine z_iload_n O dX15_reply_24 rfl 1 rfl ?_
      obtain ⟨hk, hi, b12, hr, h⟩ := h
      refine z_ald (t := 8) O rfl dX15_reply_25 hk hi hr ?_
      obtain ⟨hk, h⟩ := h
      refine z_geti O zf_X15_262_12 dX15_reply_26 hk ?_
      refine z_goto O 66 dX15_reply_29 (by decide) ?_
      exact z_iret O dX15_reply_66 h
  · replace h := h.2 c
    refine z_iconst (v := (-1)) O dX15_reply_13 rfl ?_
    exact z_iret O dX15_reply_14 h
set_option maxRecDepth 100000 in
set_option maxHeartbeats 4000000 in
theorem b_X15_connection_0 {G : zG} {X : zX} (O : zOK G X cX15_connection 4 RX15 (some .int) "connection") (hR : X.R = rm_X15_connection) {M : zM} {n k : Nat} {a0 : Nat} {x1 : Int32} {x2 : Int32} (h : M.1 a0 = 15 ∧ ∀ M1 : zM, M1 = zi M a0 0 0 → M1.1 a0 = 15 ∧ zC G yX15_isDevice cX15_isDevice 2 (some .boolean) rm_X15_isDevice M1 [.ref a0, .int x1] (fun M2 v => ∃ r3 : Int32, v = some (.int r3) ∧ (¬ r3 = 0 → M2.1 a0 = 15 ∧ ∃ b4 : Nat, M2.2.2.2 a0 8 = some b4 ∧ M2.1 b4 = 110 ∧ vp_in x1 (M2.2.1 b4) ∧ ∃ b5 : Nat, M2.2.2.2 b4 x1.toNatClampNeg = some b5 ∧ (x2.toInt < 0 ∨ 11 < x2.toInt → X.q M2 (some (.int (-1)))) ∧ (x2.toInt = 0 → M2.1 b5 = 13 ∧ X.q M2 (some (.int (M2.2.2.1 b5 18)))) ∧ (x2.toInt = 1 → M2.1 b5 = 13 ∧ (¬ (M2.2.2.1 b5 18) = 0 → M2.1 b5 = 13 ∧ X.q M2 (some (.int (M2.2.2.1 b5 19)))) ∧ ((M2.2.2.1 b5 18) = 0 → X.q M2 (some (.int (-1))))) ∧ (x2.toInt = 2 → M2.1 b5 = 13 ∧ (¬ (M2.2.2.1 b5 18) = 0 → M2.1 b5 = 13 ∧ X.q M2 (some (.int (M2.2.2.1 b5 20)))) ∧ ((M2.2.2.1 b5 18) = 0 → X.q M2 (some (.int 0)))) ∧ (x2.toInt = 3 → M2.1 b5 = 13 ∧ (¬ (M2.2.2.1 b5 18) = 0 → M2.1 b5 = 13 ∧ X.q M2 (some (.int (M2.2.2.1 b5 21)))) ∧ ((M2.2.2.1 b5 18) = 0 → X.q M2 (some (.int 0)))) ∧ (x2.toInt = 4 → M2.1 b5 = 13 ∧ (¬ (M2.2.2.1 b5 18) = 2 → X.q M2 (some (.int 0))) ∧ ((M2.2.2.1 b5 18) = 2 → M2.1 b5 = 13 ∧ X.q M2 (some (.int (M2.2.2.1 b5 22))))) ∧ (x2.toInt = 5 → M2.1 b5 = 13 ∧ (¬ (M2.2.2.1 b5 18) = 2 → X.q M2 (some (.int 0))) ∧ ((M2.2.2.1 b5 18) = 2 → M2.1 b5 = 13 ∧ X.q M2 (some (.int (M2.2.2.1 b5 23))))) ∧ (x2.toInt = 6 → M2.1 b5 = 13 ∧ ((M2.2.2.1 b5 18) = 1 → M2.1 b5 = 13 ∧ X.q M2 (some (.int (M2.2.2.1 b5 24)))) ∧ (¬ (M2.2.2.1 b5 18) = 1 → M2.1 b5 = 13 ∧ (¬ (M2.2.2.1 b5 18) = 2 → X.q M2 (some (.int 0))) ∧ ((M2.2.2.1 b5 18) = 2 → M2.1 b5 = 13 ∧ X.q M2 (some (.int (M2.2.2.1 b5 24)))))) ∧ (x2.toInt = 7 → M2.1 b5 = 13 ∧ ∃ b6 : Nat, M2.2.2.2 b5 2 = some b6 ∧ M2.1 b6 = 14 ∧ X.q M2 (some (.int (M2.2.2.1 b6 5)))) ∧ (x2.toInt = 8 → M2.1 b5 = 13 ∧ X.q M2 (some (.int (M2.2.2.1 b5 1)))) ∧ (x2.toInt = 9 → M2.1 b5 = 13 ∧ X.q M2 (some (.int (M2.2.2.1 b5 3)))) ∧ (x2.toInt = 10 → M2.1 b5 = 13 ∧ X.q M2 (some (.int (M2.2.2.1 b5 6)))) ∧ (x2.toInt = 11 → M2.1 b5 = 13 ∧ X.q M2 (some (.int (M2.2.2.1 b5 12))))) ∧ (r3 = 0 → X.q M2 (some (.int (-1)))))) : zW G X 4 M n k 0 [(0, .ref a0), (1, .int x1), (2, .int x2)] [] := by
  refine z_aload_n O dX15_connection_0 rfl 0 rfl ?_
  refine z_iconst (v := 0) O dX15_connection_1 rfl ?_
  obtain ⟨hk, h⟩ := h
  refine z_puti O zp_X15_93_14 dX15_connection_2 hk ?_
  generalize eM1 : zi M a0 0 0 = M1
  replace h := h M1 eM1.symm
  refine z_aload_n O dX15_connection_5 rfl 0 rfl ?_
  refine z_iload_n O dX15_connection_6 rfl 1 rfl ?_
  obtain ⟨hk, h⟩ := h
  refine z_callV0 (As := [.int x1]) O zc_X15_145 h hk rfl (zRm_of hR (by decide) (by decide)) (Nat.le_of_ble_eq_true rfl) dX15_connection_7 rfl rfl rfl (fun M2 v h => ?_)
  obtain ⟨r3, rfl, h⟩ := h
  refine z_if_ne O 15 dX15_connection_10 (by decide) (fun c => ?_) (fun c => ?_)
  · replace h := h.1 c
    refine z_aload_n O dX15_connection_15 rfl 0 rfl ?_
    obtain ⟨hk, b4, hr, h⟩ := h
    refine z_getr O zf_X15_21_14 dX15_connection_16 hk hr ?_
    refine z_iload_n O dX15_connection_19 rfl 1 rfl ?_
    obtain ⟨hk, hi, b5, hr, h⟩ := h
    refine z_ald (t := 8) O rfl dX15_connection_20 hk hi hr ?_
    refine z_astore_n (lv' := [(3, .ref b5), (0, .ref a0), (1, .int x1), (2, .int x2)]) O dX15_connection_21 rfl (by decide) rfl ?_
    refine z_iload_n O dX15_connection_22 rfl 3 rfl ?_
    rcases zsw x2 0 11 (by decide) with c | ⟨j, hj, c⟩
    · refine z_tsOut O 224 dX15_connection_23 c (by decide) ?_
      replace h := h.1 c
      refine z_iconst (v := (-1)) O dX15_connection_224 rfl ?_
      exact z_iret O dX15_connection_225 h
    · replace h := h.2
      rcases zcas j 0 with hz | hz
      · subst hz
        replace h := h.1 (by rw [c]; rfl)
        refine z_tsIn (off := 61) O 84 dX15_connection_23 (by rw [c]; decide) (by rw [c]; decide) (by rw [c]; rfl) (by decide) ?_
        refine z_aload_n O dX15_connection_84 rfl 0 rfl ?_
        obtain ⟨hk, h⟩ := h
        refine z_geti O zf_X15_210_12 dX15_connection_85 hk ?_
        exact z_iret O dX15_connection_88 h
      · replace h := h.2
        rcases zcas j 1 with hz | hz
        · subst hz
          replace h := h.1 (by rw [c]; rfl)
          refine z_tsIn (off := 66) O 89 dX15_connection_23 (by rw [c]; decide) (by rw [c]; decide) (by rw [c]; rfl) (by decide) ?_
          refine z_aload_n O dX15_connection_89 rfl 0 rfl ?_
          obtain ⟨hk, h⟩ := h
          refine z_geti O zf_X15_210_12 dX15_connection_90 hk ?_
          refine z_if_ne O 100 dX15_connection_93 (by decide) (fun c => ?_) (fun c => ?_)
          · replace h := h.1 c
            refine z_aload_n O dX15_connection_100 rfl 0 rfl ?_
            obtain ⟨hk, h⟩ := h
            refine z_geti O zf_X15_203_12 dX15_connection_101 hk ?_
            exact z_iret O dX15_connection_104 h
          · replace h := h.2 c
            refine z_iconst (v := (-1)) O dX15_connection_96 rfl ?_
            refine z_goto O 104 dX15_connection_97 (by decide) ?_
            exact z_iret O dX15_connection_104 h
        · replace h := h.2
          rcases zcas j 2 with hz | hz
          · subst hz
            replace h := h.1 (by rw [c]; rfl)
            refine z_tsIn (off := 82) O 105 dX15_connection_23 (by rw [c]; decide) (by rw [c]; decide) (by rw [c]; rfl) (by decide) ?_
            refine z_aload_n O dX15_connection_105 rfl 0 rfl ?_
            obtain ⟨hk, h⟩ := h
            refine z_geti O zf_X15_210_12 dX15_connection_106 hk ?_
            refine z_if_ne O 116 dX15_connection_109 (by decide) (fun c => ?_) (fun c => ?_)
            · replace h := h.1 c
              refine z_aload_n O dX15_connection_116 rfl 0 rfl ?_
              obtain ⟨hk, h⟩ := h
              refine z_geti O zf_X15_216_12 dX15_connection_117 hk ?_
              exact z_iret O dX15_connection_120 h
            · replace h := h.2 c
              refine z_iconst (v := 0) O dX15_connection_112 rfl ?_
              refine z_goto O 120 dX15_connection_113 (by decide) ?_
              exact z_iret O dX15_connection_120 h
          · replace h := h.2
            rcases zcas j 3 with hz | hz
            · subst hz
              replace h := h.1 (by rw [c]; rfl)
              refine z_tsIn (off := 98) O 121 dX15_connection_23 (by rw [c]; decide) (by rw [c]; decide) (by rw [c]; rfl) (by decide) ?_
              refine z_aload_n O dX15_connection_121 rfl 0 rfl ?_
              obtain ⟨hk, h⟩ := h
              refine z_geti O zf_X15_210_12 dX15_connection_122 hk ?_
              refine z_if_ne O 132 dX15_connection_125 (by decide) (fun c => ?_) (fun c => ?_)
              · replace h := h.1 c
                refine z_aload_n O dX15_connection_132 rfl 0 rfl ?_
                obtain ⟨hk, h⟩ := h
                refine z_geti O zf_X15_246_12 dX15_connection_133 hk ?_
                exact z_iret O dX15_connection_136 h
              · replace h := h.2 c
                refine z_iconst (v := 0) O dX15_connection_128 rfl ?_
                refine z_goto O 136 dX15_connection_129 (by decide) ?_
                exact z_iret O dX15_connection_136 h
            · replace h := h.2
              rcases zcas j 4 with hz | hz
              · subst hz
                replace h := h.1 (by rw [c]; rfl)
                refine z_tsIn (off := 114) O 137 dX15_connection_23 (by rw [c]; decide) (by rw [c]; decide) (by rw [c]; rfl) (by decide) ?_
                refine z_aload_n O dX15_connection_137 rfl 0 rfl ?_
                obtain ⟨hk, h⟩ := h
                refine z_geti O zf_X15_210_12 dX15_connection_138 hk ?_
                refine z_iconst (v := 2) O dX15_connection_141 rfl ?_
                refine z_icmp_ne O 152 dX15_connection_142 (by decide) (fun c => ?_) (fun c => ?_)
                · replace h := h.1 c
                  refine z_iconst (v := 0) O dX15_connection_152 rfl ?_
                  exact z_iret O dX15_connection_153 h
                · replace h := h.2 c
                  refine z_aload_n O dX15_connection_145 rfl 0 rfl ?_
                  obtain ⟨hk, h⟩ := h
                  refine z_geti O zf_X15_222_12 dX15_connection_146 hk ?_
                  refine z_goto O 153 dX15_connection_149 (by decide) ?_
                  exact z_iret O dX15_connection_153 h
              · replace h := h.2
                rcases zcas j 5 with hz | hz
                · subst hz
                  replace h := h.1 (by rw [c]; rfl)
                  refine z_tsIn (off := 131) O 154 dX15_connection_23 (by rw [c]; decide) (by rw [c]; decide) (by rw [c]; rfl) (by decide) ?_
                  refine z_aload_n O dX15_connection_154 rfl 0 rfl ?_
                  obtain ⟨hk, h⟩ := h
                  refine z_geti O zf_X15_210_12 dX15_connection_155 hk ?_
                  refine z_iconst (v := 2) O dX15_connection_158 rfl ?_
                  refine z_icmp_ne O 169 dX15_connection_159 (by decide) (fun c => ?_) (fun c => ?_)
                  · replace h := h.1 c
                    refine z_iconst (v := 0) O dX15_connection_169 rfl ?_
                    exact z_iret O dX15_connection_170 h
                  · replace h := h.2 c
                    refine z_aload_n O dX15_connection_162 rfl 0 rfl ?_
                    obtain ⟨hk, h⟩ := h
                    refine z_geti O zf_X15_225_12 dX15_connection_163 hk ?_
                    refine z_goto O 170 dX15_connection_166 (by decide) ?_
                    exact z_iret O dX15_connection_170 h
                · replace h := h.2
                  rcases zcas j 6 with hz | hz
                  · subst hz
                    replace h := h.1 (by rw [c]; rfl)
                    refine z_tsIn (off := 148) O 171 dX15_connection_23 (by rw [c]; decide) (by rw [c]; decide) (by rw [c]; rfl) (by decide) ?_
                    refine z_aload_n O dX15_connection_171 rfl 0 rfl ?_
                    obtain ⟨hk, h⟩ := h
                    refine z_geti O zf_X15_210_12 dX15_connection_172 hk ?_
                    refine z_iconst (v := 1) O dX15_connection_175 rfl ?_
                    refine z_icmp_eq O 187 dX15_connection_176 (by decide) (fun c => ?_) (fun c => ?_)
                    · replace h := h.1 c
                      refine z_aload_n O dX15_connection_187 rfl 0 rfl ?_
                      obtain ⟨hk, h⟩ := h
                      refine z_geti O zf_X15_228_12 dX15_connection_188 hk ?_
                      refine z_goto O 195 dX15_connection_191 (by decide) ?_
                      exact z_iret O dX15_connection_195 h
                    · replace h := h.2 c
                      refine z_aload_n O dX15_connection_179 rfl 0 rfl ?_
                      obtain ⟨hk, h⟩ := h
                      refine z_geti O zf_X15_210_12 dX15_connection_180 hk ?_
                      refine z_iconst (v := 2) O dX15_connection_183 rfl ?_
                      refine z_icmp_ne O 194 dX15_connection_184 (by decide) (fun c => ?_) (fun c => ?_)
                      · replace h := h.1 c
                        refine z_iconst (v := 0) O dX15_connection_194 rfl ?_
                        exact z_iret O dX15_connection_195 h
                      · replace h := h.2 c
                        refine z_aload_n O dX15_connection_187 rfl 0 rfl ?_
                        obtain ⟨hk, h⟩ := h
                        refine z_geti O zf_X15_228_12 dX15_connection_188 hk ?_
                        refine z_goto O 195 dX15_connection_191 (by decide) ?_
                        exact z_iret O dX15_connection_195 h
                  · replace h := h.2
                    rcases zcas j 7 with hz | hz
                    · subst hz
                      replace h := h.1 (by rw [c]; rfl)
                      refine z_tsIn (off := 173) O 196 dX15_connection_23 (by rw [c]; decide) (by rw [c]; decide) (by rw [c]; rfl) (by decide) ?_
                      refine z_aload_n O dX15_connection_196 rfl 0 rfl ?_
                      obtain ⟨hk, b6, hr, h⟩ := h
                      refine z_getr O zf_X15_155_12 dX15_connection_197 hk hr ?_
                      obtain ⟨hk, h⟩ := h
                      refine z_geti O zf_X15_96_13 dX15_connection_200 hk ?_
                      exact z_iret O dX15_connection_203 h
                    · replace h := h.2
                      rcases zcas j 8 with hz | hz
                      · subst hz
                        replace h := h.1 (by rw [c]; rfl)
                        refine z_tsIn (off := 181) O 204 dX15_connection_23 (by rw [c]; decide) (by rw [c]; decide) (by rw [c]; rfl) (by decide) ?_
                        refine z_aload_n O dX15_connection_204 rfl 0 rfl ?_
                        obtain ⟨hk, h⟩ := h
                        refine z_geti O zf_X15_152_12 dX15_connection_205 hk ?_
                        exact z_iret O dX15_connection_208 h
                      · replace h := h.2
                        rcases zcas j 9 with hz | hz
                        · subst hz
                          replace h := h.1 (by rw [c]; rfl)
                          refine z_tsIn (off := 186) O 209 dX15_connection_23 (by rw [c]; decide) (by rw [c]; decide) (by rw [c]; rfl) (by decide) ?_
                          refine z_aload_n O dX15_connection_209 rfl 0 rfl ?_
                          obtain ⟨hk, h⟩ := h
                          refine z_geti O zf_X15_317_12 dX15_connection_210 hk ?_
                          exact z_iret O dX15_connection_213 h
                        · replace h := h.2
                          rcases zcas j 10 with hz | hz
                          · subst hz
                            replace h := h.1 (by rw [c]; rfl)
                            refine z_tsIn (off := 191) O 214 dX15_connection_23 (by rw [c]; decide) (by rw [c]; decide) (by rw [c]; rfl) (by decide) ?_
                            refine z_aload_n O dX15_connection_214 rfl 0 rfl ?_
                            obtain ⟨hk, h⟩ := h
                            refine z_geti O zf_X15_149_12 dX15_connection_215 hk ?_
                            exact z_iret O dX15_connection_218 h
                          · replace h := h.2
                            have hz : j = 11 := by omega
                            subst hz
                            replace h := h (by rw [c]; rfl)
                            refine z_tsIn (off := 196) O 219 dX15_connection_23 (by rw [c]; decide) (by rw [c]; decide) (by rw [c]; rfl) (by decide) ?_
                            refine z_aload_n O dX15_connection_219 rfl 0 rfl ?_
                            obtain ⟨hk, h⟩ := h
                            refine z_geti O zf_X15_180_12 dX15_connection_220 hk ?_
                            exact z_iret O dX15_connection_223 h
  · replace h := h.2 c
    refine z_iconst (v := (-1)) O dX15_connection_13 rfl ?_
    exact z_iret O dX15_connection_14 h
set_option maxRecDepth 100000 in
set_option maxHeartbeats 4000000 in
theorem b_X15_busy_0 {G : zG} {X : zX} (O : zOK G X cX15_busy 3 RX15 (some .boolean) "busy") (hR : X.R = rm_X15_busy) {M : zM} {n k : Nat} {a0 : Nat} {x1 : Int32} {x2 : Int32} (h : M.1 a0 = 15 ∧ ∀ M1 : zM, M1 = zi M a0 0 0 → M1.1 a0 = 15 ∧ zC G yX15_isDevice cX15_isDevice 2 (some .boolean) rm_X15_isDevice M1 [.ref a0, .int x1] (fun M2 v => ∃ r3 : Int32, v = some (.int r3) ∧ (r3 = 0 → X.q M2 (some (.int 0))) ∧ (¬ r3 = 0 → zC G yX15_in cX15_in 3 (some .boolean) rm_X15_in M2 [.int x2, .int 0, .int 20] (fun M4 v => ∃ r5 : Int32, v = some (.int r5) ∧ (¬ r5 = 0 → M4.1 a0 = 15 ∧ ∃ b6 : Nat, M4.2.2.2 a0 8 = some b6 ∧ M4.1 b6 = 110 ∧ vp_in x1 (M4.2.1 b6) ∧ ∃ b7 : Nat, M4.2.2.2 b6 x1.toNatClampNeg = some b7 ∧ M4.1 b7 = 13 ∧ ∀ M8 : zM, M8 = zi M4 b7 3 x2 → X.q M8 (some (.int 1))) ∧ (r5 = 0 → X.q M4 (some (.int 0))))))) : zW G X 3 M n k 0 [(0, .ref a0), (1, .int x1), (2, .int x2)] [] := by
  refine z_aload_n O dX15_busy_0 rfl 0 rfl ?_
  refine z_iconst (v := 0) O dX15_busy_1 rfl ?_
  obtain ⟨hk, h⟩ := h
  refine z_puti O zp_X15_93_14 dX15_busy_2 hk ?_
  generalize eM1 : zi M a0 0 0 = M1
  replace h := h M1 eM1.symm
  refine z_aload_n O dX15_busy_5 rfl 0 rfl ?_
  refine z_iload_n O dX15_busy_6 rfl 1 rfl ?_
  obtain ⟨hk, h⟩ := h
  refine z_callV0 (As := [.int x1]) O zc_X15_145 h hk rfl (zRm_of hR (by decide) (by decide)) (Nat.le_of_ble_eq_true rfl) dX15_busy_7 rfl rfl rfl (fun M2 v h => ?_)
  obtain ⟨r3, rfl, h⟩ := h
  refine z_if_eq O 23 dX15_busy_10 (by decide) (fun c => ?_) (fun c => ?_)
  · replace h := h.1 c
    refine z_iconst (v := 0) O dX15_busy_23 rfl ?_
    exact z_zret O dX15_busy_24 (by decide) h
  · replace h := h.2 c
    refine z_iload_n O dX15_busy_13 rfl 2 rfl ?_
    refine z_iconst (v := 0) O dX15_busy_14 rfl ?_
    refine z_bipush (v := 20) O dX15_busy_15 rfl ?_
    refine z_callS0 (As := [.int x2, .int 0, .int 20]) O zc_X15_135 h rfl (zRm_of hR (by decide) (by decide)) (Nat.le_of_ble_eq_true rfl) dX15_busy_17 rfl rfl rfl (fun M4 v h => ?_)
    obtain ⟨r5, rfl, h⟩ := h
    refine z_if_ne O 25 dX15_busy_20 (by decide) (fun c => ?_) (fun c => ?_)
    · replace h := h.1 c
      refine z_aload_n O dX15_busy_25 rfl 0 rfl ?_
      obtain ⟨hk, b6, hr, h⟩ := h
      refine z_getr O zf_X15_21_14 dX15_busy_26 hk hr ?_
      refine z_iload_n O dX15_busy_29 rfl 1 rfl ?_
      obtain ⟨hk, hi, b7, hr, h⟩ := h
      refine z_ald (t := 8) O rfl dX15_busy_30 hk hi hr ?_
      refine z_iload_n O dX15_busy_31 rfl 2 rfl ?_
      obtain ⟨hk, h⟩ := h
      refine z_puti O zp_X15_317_12 dX15_busy_32 hk ?_
      generalize eM8 : zi M4 b7 3 x2 = M8
      replace h := h M8 eM8.symm
      refine z_iconst (v := 1) O dX15_busy_35 rfl ?_
      exact z_zret O dX15_busy_36 (by decide) h
    · replace h := h.2 c
      refine z_iconst (v := 0) O dX15_busy_23 rfl ?_
      exact z_zret O dX15_busy_24 (by decide) h
set_option maxRecDepth 100000 in
set_option maxHeartbeats 4000000 in
theorem b_X15_feed_0 {G : zG} {X : zX} (O : zOK G X cX15_feed 8 RX15 (some .int) "feed") (hR : X.R = rm_X15_feed) {M : zM} {n k : Nat} {a0 : Nat} {x1 : Int32} {x2 : Int32} {x3 : Int32} {x4 : Int32} {x5 : Int32} (h : M.1 a0 = 15 ∧ ∀ M1 : zM, M1 = zi M a0 0 0 → M1.1 a0 = 15 ∧ (((M1.2.2.1 a0 39) + 20) ≤ 60 → zW G X 8 M1 n k 22 [(0, .ref a0), (1, .int x1), (2, .int x2), (3, .int x3), (4, .int x4), (5, .int x5), (6, .int 0)] []) ∧ (¬ ((M1.2.2.1 a0 39) + 20) ≤ 60 → X.q M1 (some (.int (-1))))) : zW G X 8 M n k 0 [(0, .ref a0), (1, .int x1), (2, .int x2), (3, .int x3), (4, .int x4), (5, .int x5)] [] := by
  refine z_aload_n O dX15_feed_0 rfl 0 rfl ?_
  refine z_iconst (v := 0) O dX15_feed_1 rfl ?_
  obtain ⟨hk, h⟩ := h
  refine z_puti O zp_X15_93_14 dX15_feed_2 hk ?_
  generalize eM1 : zi M a0 0 0 = M1
  replace h := h M1 eM1.symm
  refine z_aload_n O dX15_feed_5 rfl 0 rfl ?_
  obtain ⟨hk, h⟩ := h
  refine z_geti O zf_X15_433_14 dX15_feed_6 hk ?_
  refine z_bipush (v := 20) O dX15_feed_9 rfl ?_
  refine z_iadd O dX15_feed_11 ?_
  refine z_bipush (v := 60) O dX15_feed_12 rfl ?_
  refine z_icmp_le O 19 dX15_feed_14 (by decide) (fun c => ?_) (fun c => ?_)
  · replace h := h.1 c
    refine z_iconst (v := 0) O dX15_feed_19 rfl ?_
    refine z_istore (lv' := [(6, .int 0), (0, .ref a0), (1, .int x1), (2, .int x2), (3, .int x3), (4, .int x4), (5, .int x5)]) O dX15_feed_20 (by decide) rfl ?_
    exact z_to [1, 2, 3, 4, 5, 6, 0] rfl h
  · replace h := h.2 c
    refine z_iconst (v := (-1)) O dX15_feed_17 rfl ?_
    exact z_iret O dX15_feed_18 h
set_option maxRecDepth 100000 in
set_option maxHeartbeats 4000000 in
theorem b_X15_feed_22 {G : zG} {X : zX} (O : zOK G X cX15_feed 8 RX15 (some .int) "feed") (hR : X.R = rm_X15_feed) {M : zM} {n k : Nat} {a0 : Nat} {x1 : Int32} {x2 : Int32} {x3 : Int32} {x4 : Int32} {x5 : Int32} {x6 : Int32} (h : (20 ≤ x6 → M.1 a0 = 15 ∧ X.q M (some (.int (M.2.2.1 a0 39)))) ∧ (¬ 20 ≤ x6 → (4 ≤ x6 → (8 ≤ x6 → (12 ≤ x6 → (16 ≤ x6 → zW G X 8 M n k 75 [(0, .ref a0), (1, .int x1), (2, .int x2), (3, .int x3), (4, .int x4), (5, .int x5), (6, .int x6)] [.int x5]) ∧ (¬ 16 ≤ x6 → zW G X 8 M n k 75 [(0, .ref a0), (1, .int x1), (2, .int x2), (3, .int x3), (4, .int x4), (5, .int x5), (6, .int x6)] [.int x4])) ∧ (¬ 12 ≤ x6 → zW G X 8 M n k 75 [(0, .ref a0), (1, .int x1), (2, .int x2), (3, .int x3), (4, .int x4), (5, .int x5), (6, .int x6)] [.int x3])) ∧ (¬ 8 ≤ x6 → zW G X 8 M n k 75 [(0, .ref a0), (1, .int x1), (2, .int x2), (3, .int x3), (4, .int x4), (5, .int x5), (6, .int x6)] [.int x2])) ∧ (¬ 4 ≤ x6 → zW G X 8 M n k 75 [(0, .ref a0), (1, .int x1), (2, .int x2), (3, .int x3), (4, .int x4), (5, .int x5), (6, .int x6)] [.int x1]))) : zW G X 8 M n k 22 [(0, .ref a0), (1, .int x1), (2, .int x2), (3, .int x3), (4, .int x4), (5, .int x5), (6, .int x6)] [] := by
  refine z_iload O dX15_feed_22 6 rfl ?_
  refine z_bipush (v := 20) O dX15_feed_24 rfl ?_
  refine z_icmp_ge O 119 dX15_feed_26 (by decide) (fun c => ?_) (fun c => ?_)
  · replace h := h.1 c
    refine z_aload_n O dX15_feed_119 rfl 0 rfl ?_
    obtain ⟨hk, h⟩ := h
    refine z_geti O zf_X15_433_14 dX15_feed_120 hk ?_
    exact z_iret O dX15_feed_123 h
  · replace h := h.2 c
    refine z_iload O dX15_feed_29 6 rfl ?_
    refine z_iconst (v := 4) O dX15_feed_31 rfl ?_
    refine z_icmp_ge O 39 dX15_feed_32 (by decide) (fun c => ?_) (fun c => ?_)
    · replace h := h.1 c
      refine z_iload O dX15_feed_39 6 rfl ?_
      refine z_bipush (v := 8) O dX15_feed_41 rfl ?_
      refine z_icmp_ge O 50 dX15_feed_43 (by decide) (fun c => ?_) (fun c => ?_)
      · replace h := h.1 c
        refine z_iload O dX15_feed_50 6 rfl ?_
        refine z_bipush (v := 12) O dX15_feed_52 rfl ?_
        refine z_icmp_ge O 61 dX15_feed_54 (by decide) (fun c => ?_) (fun c => ?_)
        · replace h := h.1 c
          refine z_iload O dX15_feed_61 6 rfl ?_
          refine z_bipush (v := 16) O dX15_feed_63 rfl ?_
          refine z_icmp_ge O 73 dX15_feed_65 (by decide) (fun c => ?_) (fun c => ?_)
          · replace h := h.1 c
            refine z_iload O dX15_feed_73 5 rfl ?_
            exact h
          · replace h := h.2 c
            refine z_iload O dX15_feed_68 4 rfl ?_
            refine z_goto O 75 dX15_feed_70 (by decide) ?_
            exact h
        · replace h := h.2 c
          refine z_iload_n O dX15_feed_57 rfl 3 rfl ?_
          refine z_goto O 75 dX15_feed_58 (by decide) ?_
          exact h
      · replace h := h.2 c
        refine z_iload_n O dX15_feed_46 rfl 2 rfl ?_
        refine z_goto O 75 dX15_feed_47 (by decide) ?_
        exact h
    · replace h := h.2 c
      refine z_iload_n O dX15_feed_35 rfl 1 rfl ?_
      refine z_goto O 75 dX15_feed_36 (by decide) ?_
      exact h
set_option maxRecDepth 100000 in
set_option maxHeartbeats 4000000 in
theorem b_X15_feed_75 {G : zG} {X : zX} (O : zOK G X cX15_feed 8 RX15 (some .int) "feed") (hR : X.R = rm_X15_feed) {M : zM} {n k : Nat} {a0 : Nat} {x1 : Int32} {x2 : Int32} {x3 : Int32} {x4 : Int32} {x5 : Int32} {x6 : Int32} {s0 : Int32} (h : M.1 a0 = 15 ∧ ∃ b1 : Nat, M.2.2.2 a0 38 = some b1 ∧ M.1 a0 = 15 ∧ M.1 b1 = 100 ∧ vp_in ((M.2.2.1 a0 39)) (M.2.1 b1) ∧ ∀ M2 : zM, M2 = zi M b1 (((M.2.2.1 a0 39)).toNatClampNeg) ((s0 >>> ((24 - (8 * (x6 - x6 / 4 * 4))) &&& 31)) &&& 255) → M2.1 a0 = 15 ∧ M2.1 a0 = 15 ∧ ∀ M3 : zM, M3 = zi M2 a0 39 ((M2.2.2.1 a0 39) + 1) → ∀ y4 : Int32, y4 = x6 + 1 → zW G X 8 M3 n k 22 [(0, .ref a0), (1, .int x1), (2, .int x2), (3, .int x3), (4, .int x4), (5, .int x5), (6, .int y4)] []) : zW G X 8 M n k 75 [(0, .ref a0), (1, .int x1), (2, .int x2), (3, .int x3), (4, .int x4), (5, .int x5), (6, .int x6)] [.int s0] := by
  refine z_istore (lv' := [(7, .int s0), (0, .ref a0), (1, .int x1), (2, .int x2), (3, .int x3), (4, .int x4), (5, .int x5), (6, .int x6)]) O dX15_feed_75 (by decide) rfl ?_
  refine z_aload_n O dX15_feed_77 rfl 1 rfl ?_
  obtain ⟨hk, b1, hr, h⟩ := h
  refine z_getr O zf_X15_87_14 dX15_feed_78 hk hr ?_
  refine z_aload_n O dX15_feed_81 rfl 1 rfl ?_
  obtain ⟨hk, h⟩ := h
  refine z_geti O zf_X15_433_14 dX15_feed_82 hk ?_
  refine z_iload O dX15_feed_85 0 rfl ?_
  refine z_bipush (v := 24) O dX15_feed_87 rfl ?_
  refine z_bipush (v := 8) O dX15_feed_89 rfl ?_
  refine z_iload O dX15_feed_91 7 rfl ?_
  refine z_iconst (v := 4) O dX15_feed_93 rfl ?_
  refine z_irem O dX15_feed_94 (by decide) ?_
  refine z_imul O dX15_feed_95 ?_
  refine z_isub O dX15_feed_96 ?_
  refine z_ishr O dX15_feed_97 ?_
  refine z_sipush (v := 255) O dX15_feed_98 rfl ?_
  refine z_iand O dX15_feed_101 ?_
  obtain ⟨hk, hi, h⟩ := h
  refine z_iast O dX15_feed_102 hk hi ?_
  generalize eM2 : zi M b1 (((M.2.2.1 a0 39)).toNatClampNeg) ((s0 >>> ((24 - (8 * (x6 - x6 / 4 * 4))) &&& 31)) &&& 255) = M2
  replace h := h M2 eM2.symm
  refine z_aload_n O dX15_feed_103 rfl 1 rfl ?_
  refine z_dup O dX15_feed_104 rfl ?_
  obtain ⟨hk, h⟩ := h
  refine z_geti O zf_X15_433_14 dX15_feed_105 hk ?_
  refine z_iconst (v := 1) O dX15_feed_108 rfl ?_
  refine z_iadd O dX15_feed_109 ?_
  obtain ⟨hk, h⟩ := h
  refine z_puti O zp_X15_433_14 dX15_feed_110 hk ?_
  generalize eM3 : zi M2 a0 39 ((M2.2.2.1 a0 39) + 1) = M3
  replace h := h M3 eM3.symm
  obtain ⟨y4, ey4⟩ : ∃ y : Int32, y = x6 + 1 := ⟨_, rfl⟩
  replace h := h y4 ey4
  refine z_iinc (v := y4) (lv' := [(6, .int y4), (7, .int s0), (0, .ref a0), (1, .int x1), (2, .int x2), (3, .int x3), (4, .int x4), (5, .int x5)]) O dX15_feed_113 (q := 7) rfl (by rw [ey4]; rfl) (by decide) rfl ?_
  refine z_goto O 22 dX15_feed_116 (by decide) ?_
  exact z_to [2, 3, 4, 5, 6, 7, 0] rfl h
set_option maxRecDepth 100000 in
set_option maxHeartbeats 4000000 in
theorem b_X15_end_0 {G : zG} {X : zX} (O : zOK G X cX15_end 2 RX15 (some .int) "end") (hR : X.R = rm_X15_end) {M : zM} {n k : Nat} {a0 : Nat} {x1 : Int32} (h : M.1 a0 = 15 ∧ ∀ M1 : zM, M1 = zi M a0 0 0 → M1.1 a0 = 15 ∧ zC G yX15_in cX15_in 3 (some .boolean) rm_X15_in M1 [.int x1, .int 0, .int (M1.2.2.1 a0 39)] (fun M2 v => ∃ r3 : Int32, v = some (.int r3) ∧ (¬ r3 = 0 → M2.1 a0 = 15 ∧ ∀ M4 : zM, M4 = zi M2 a0 39 x1 → X.q M4 (some (.int x1))) ∧ (r3 = 0 → X.q M2 (some (.int (-1)))))) : zW G X 2 M n k 0 [(0, .ref a0), (1, .int x1)] [] := by
  refine z_aload_n O dX15_end_0 rfl 0 rfl ?_
  refine z_iconst (v := 0) O dX15_end_1 rfl ?_
  obtain ⟨hk, h⟩ := h
  refine z_puti O zp_X15_93_14 dX15_end_2 hk ?_
  generalize eM1 : zi M a0 0 0 = M1
  replace h := h M1 eM1.symm
  refine z_iload_n O dX15_end_5 rfl 1 rfl ?_
  refine z_iconst (v := 0) O dX15_end_6 rfl ?_
  refine z_aload_n O dX15_end_7 rfl 0 rfl ?_
  obtain ⟨hk, h⟩ := h
  refine z_geti O zf_X15_433_14 dX15_end_8 hk ?_
  refine z_callS0 (As := [.int x1, .int 0, .int (M1.2.2.1 a0 39)]) O zc_X15_135 h rfl (zRm_of hR (by decide) (by decide)) (Nat.le_of_ble_eq_true rfl) dX15_end_11 rfl rfl rfl (fun M2 v h => ?_)
  obtain ⟨r3, rfl, h⟩ := h
  refine z_if_ne O 19 dX15_end_14 (by decide) (fun c => ?_) (fun c => ?_)
  · replace h := h.1 c
    refine z_aload_n O dX15_end_19 rfl 0 rfl ?_
    refine z_iload_n O dX15_end_20 rfl 1 rfl ?_
    obtain ⟨hk, h⟩ := h
    refine z_puti O zp_X15_433_14 dX15_end_21 hk ?_
    generalize eM4 : zi M2 a0 39 x1 = M4
    replace h := h M4 eM4.symm
    refine z_iload_n O dX15_end_24 rfl 1 rfl ?_
    exact z_iret O dX15_end_25 h
  · replace h := h.2 c
    refine z_iconst (v := (-1)) O dX15_end_17 rfl ?_
    exact z_iret O dX15_end_18 h
set_option maxRecDepth 100000 in
set_option maxHeartbeats 4000000 in
theorem b_X15_raw_0 {G : zG} {X : zX} (O : zOK G X cX15_raw 3 RX15 (some .int) "raw") (hR : X.R = rm_X15_raw) {M : zM} {n k : Nat} {a0 : Nat} {x1 : Int32} (h : M.1 a0 = 15 ∧ ∀ M1 : zM, M1 = zi M a0 0 0 → M1.1 a0 = 15 ∧ zC G yX15_isLine cX15_isLine 2 (some .boolean) rm_X15_isLine M1 [.ref a0, .int x1] (fun M2 v => ∃ r3 : Int32, v = some (.int r3) ∧ (r3 = 0 → X.q M2 (some (.int (-1)))) ∧ (¬ r3 = 0 → M2.1 a0 = 15 ∧ zC G yX15_in cX15_in 3 (some .boolean) rm_X15_in M2 [.int (M2.2.2.1 a0 39), .int 8, .int 23] (fun M4 v => ∃ r5 : Int32, v = some (.int r5) ∧ (¬ r5 = 0 → M4.1 a0 = 15 ∧ ∃ b6 : Nat, M4.2.2.2 a0 6 = some b6 ∧ M4.1 b6 = 109 ∧ vp_in x1 (M4.2.1 b6) ∧ ∃ b7 : Nat, M4.2.2.2 b6 x1.toNatClampNeg = some b7 ∧ M4.1 b7 = 14 ∧ (¬ (M4.2.2.1 b7 5) = 8 → M4.1 a0 = 15 ∧ ∃ b8 : Nat, M4.2.2.2 a0 6 = some b8 ∧ M4.1 b8 = 109 ∧ vp_in x1 (M4.2.1 b8) ∧ ∃ b9 : Nat, M4.2.2.2 b8 x1.toNatClampNeg = some b9 ∧ M4.1 a0 = 15 ∧ ∃ b10 : Nat, M4.2.2.2 a0 38 = some b10 ∧ M4.1 a0 = 15 ∧ M4.1 a0 = 15 ∧ zC G yX15_comes cX15_comes 5 (some .int) rm_X15_comes M4 [.ref a0, .ref b9, .ref b10, .int (M4.2.2.1 a0 39)] (fun M11 v => ∃ r12 : Int32, v = some (.int r12) ∧ M11.1 a0 = 15 ∧ ∀ M13 : zM, M13 = zi M11 a0 39 0 → M13.1 a0 = 15 ∧ ∃ b14 : Nat, M13.2.2.2 a0 6 = some b14 ∧ M13.1 b14 = 109 ∧ vp_in x1 (M13.2.1 b14) ∧ ∃ b15 : Nat, M13.2.2.2 b14 x1.toNatClampNeg = some b15 ∧ M13.1 b15 = 14 ∧ X.q M13 (some (.int (M13.2.2.1 b15 5))))) ∧ ((M4.2.2.1 b7 5) = 8 → X.q M4 (some (.int (-2))))) ∧ (r5 = 0 → X.q M4 (some (.int (-1)))))))) : zW G X 3 M n k 0 [(0, .ref a0), (1, .int x1)] [] := by
  refine z_aload_n O dX15_raw_0 rfl 0 rfl ?_
  refine z_iconst (v := 0) O dX15_raw_1 rfl ?_
  obtain ⟨hk, h⟩ := h
  refine z_puti O zp_X15_93_14 dX15_raw_2 hk ?_
  generalize eM1 : zi M a0 0 0 = M1
  replace h := h M1 eM1.symm
  refine z_aload_n O dX15_raw_5 rfl 0 rfl ?_
  refine z_iload_n O dX15_raw_6 rfl 1 rfl ?_
  obtain ⟨hk, h⟩ := h
  refine z_callV0 (As := [.int x1]) O zc_X15_399 h hk rfl (zRm_of hR (by decide) (by decide)) (Nat.le_of_ble_eq_true rfl) dX15_raw_7 rfl rfl rfl (fun M2 v h => ?_)
  obtain ⟨r3, rfl, h⟩ := h
  refine z_if_eq O 27 dX15_raw_10 (by decide) (fun c => ?_) (fun c => ?_)
  · replace h := h.1 c
    refine z_iconst (v := (-1)) O dX15_raw_27 rfl ?_
    exact z_iret O dX15_raw_28 h
  · replace h := h.2 c
    refine z_aload_n O dX15_raw_13 rfl 0 rfl ?_
    obtain ⟨hk, h⟩ := h
    refine z_geti O zf_X15_433_14 dX15_raw_14 hk ?_
    refine z_bipush (v := 8) O dX15_raw_17 rfl ?_
    refine z_bipush (v := 23) O dX15_raw_19 rfl ?_
    refine z_callS0 (As := [.int (M2.2.2.1 a0 39), .int 8, .int 23]) O zc_X15_135 h rfl (zRm_of hR (by decide) (by decide)) (Nat.le_of_ble_eq_true rfl) dX15_raw_21 rfl rfl rfl (fun M4 v h => ?_)
    obtain ⟨r5, rfl, h⟩ := h
    refine z_if_ne O 29 dX15_raw_24 (by decide) (fun c => ?_) (fun c => ?_)
    · replace h := h.1 c
      refine z_aload_n O dX15_raw_29 rfl 0 rfl ?_
      obtain ⟨hk, b6, hr, h⟩ := h
      refine z_getr O zf_X15_15_14 dX15_raw_30 hk hr ?_
      refine z_iload_n O dX15_raw_33 rfl 1 rfl ?_
      obtain ⟨hk, hi, b7, hr, h⟩ := h
      refine z_ald (t := 7) O rfl dX15_raw_34 hk hi hr ?_
      obtain ⟨hk, h⟩ := h
      refine z_geti O zf_X15_96_13 dX15_raw_35 hk ?_
      refine z_bipush (v := 8) O dX15_raw_38 rfl ?_
      refine z_icmp_ne O 46 dX15_raw_40 (by decide) (fun c => ?_) (fun c => ?_)
      · replace h := h.1 c
        refine z_aload_n O dX15_raw_46 rfl 0 rfl ?_
        refine z_aload_n O dX15_raw_47 rfl 0 rfl ?_
        obtain ⟨hk, b8, hr, h⟩ := h
        refine z_getr O zf_X15_15_14 dX15_raw_48 hk hr ?_
        refine z_iload_n O dX15_raw_51 rfl 1 rfl ?_
        obtain ⟨hk, hi, b9, hr, h⟩ := h
        refine z_ald (t := 7) O rfl dX15_raw_52 hk hi hr ?_
        refine z_aload_n O dX15_raw_53 rfl 0 rfl ?_
        obtain ⟨hk, b10, hr, h⟩ := h
        refine z_getr O zf_X15_87_14 dX15_raw_54 hk hr ?_
        refine z_aload_n O dX15_raw_57 rfl 0 rfl ?_
        obtain ⟨hk, h⟩ := h
        refine z_geti O zf_X15_433_14 dX15_raw_58 hk ?_
        obtain ⟨hk, h⟩ := h
        refine z_callV0 (As := [.ref b9, .ref b10, .int (M4.2.2.1 a0 39)]) O zc_X15_159 h hk rfl (zRm_of hR (by decide) (by decide)) (Nat.le_of_ble_eq_true rfl) dX15_raw_61 rfl rfl rfl (fun M11 v h => ?_)
        obtain ⟨r12, rfl, h⟩ := h
        refine z_istore_n (lv' := [(2, .int r12), (0, .ref a0), (1, .int x1)]) O dX15_raw_64 rfl (by decide) rfl ?_
        refine z_aload_n O dX15_raw_65 rfl 1 rfl ?_
        refine z_iconst (v := 0) O dX15_raw_66 rfl ?_
        obtain ⟨hk, h⟩ := h
        refine z_puti O zp_X15_433_14 dX15_raw_67 hk ?_
        generalize eM13 : zi M11 a0 39 0 = M13
        replace h := h M13 eM13.symm
        refine z_aload_n O dX15_raw_70 rfl 1 rfl ?_
        obtain ⟨hk, b14, hr, h⟩ := h
        refine z_getr O zf_X15_15_14 dX15_raw_71 hk hr ?_
        refine z_iload_n O dX15_raw_74 rfl 2 rfl ?_
        obtain ⟨hk, hi, b15, hr, h⟩ := h
        refine z_ald (t := 7) O rfl dX15_raw_75 hk hi hr ?_
        obtain ⟨hk, h⟩ := h
        refine z_geti O zf_X15_96_13 dX15_raw_76 hk ?_
        exact z_iret O dX15_raw_79 h
      · replace h := h.2 c
        refine z_bipush (v := (-2)) O dX15_raw_43 rfl ?_
        exact z_iret O dX15_raw_45 h
    · replace h := h.2 c
      refine z_iconst (v := (-1)) O dX15_raw_27 rfl ?_
      exact z_iret O dX15_raw_28 h
set_option maxRecDepth 100000 in
set_option maxHeartbeats 4000000 in
theorem b_X15_harm_0 {G : zG} {X : zX} (O : zOK G X cX15_harm 5 RX15 (some .boolean) "harm") (hR : X.R = rm_X15_harm) {M : zM} {n k : Nat} {a0 : Nat} {x1 : Int32} {x2 : Int32} {x3 : Int32} (h : M.1 a0 = 15 ∧ ∀ M1 : zM, M1 = zi M a0 0 0 → zC G yX15_in cX15_in 3 (some .boolean) rm_X15_in M1 [.int x1, .int 0, .int 500] (fun M2 v => ∃ r3 : Int32, v = some (.int r3) ∧ (r3 = 0 → X.q M2 (some (.int 0))) ∧ (¬ r3 = 0 → zC G yX15_in cX15_in 3 (some .boolean) rm_X15_in M2 [.int x2, .int 0, .int 22] (fun M4 v => ∃ r5 : Int32, v = some (.int r5) ∧ (r5 = 0 → X.q M4 (some (.int 0))) ∧ (¬ r5 = 0 → zC G yX15_in cX15_in 3 (some .boolean) rm_X15_in M4 [.int x3, .int 1, .int 255] (fun M6 v => ∃ r7 : Int32, v = some (.int r7) ∧ (¬ r7 = 0 → zW G X 5 M6 n k 42 [(0, .ref a0), (1, .int x1), (2, .int x2), (3, .int x3), (4, .int 0)] []) ∧ (r7 = 0 → X.q M6 (some (.int 0))))))))) : zW G X 5 M n k 0 [(0, .ref a0), (1, .int x1), (2, .int x2), (3, .int x3)] [] := by
  refine z_aload_n O dX15_harm_0 rfl 0 rfl ?_
  refine z_iconst (v := 0) O dX15_harm_1 rfl ?_
  obtain ⟨hk, h⟩ := h
  refine z_puti O zp_X15_93_14 dX15_harm_2 hk ?_
  generalize eM1 : zi M a0 0 0 = M1
  replace h := h M1 eM1.symm
  refine z_iload_n O dX15_harm_5 rfl 1 rfl ?_
  refine z_iconst (v := 0) O dX15_harm_6 rfl ?_
  refine z_sipush (v := 500) O dX15_harm_7 rfl ?_
  refine z_callS0 (As := [.int x1, .int 0, .int 500]) O zc_X15_135 h rfl (zRm_of hR (by decide) (by decide)) (Nat.le_of_ble_eq_true rfl) dX15_harm_10 rfl rfl rfl (fun M2 v h => ?_)
  obtain ⟨r3, rfl, h⟩ := h
  refine z_if_eq O 37 dX15_harm_13 (by decide) (fun c => ?_) (fun c => ?_)
  · replace h := h.1 c
    refine z_iconst (v := 0) O dX15_harm_37 rfl ?_
    exact z_zret O dX15_harm_38 (by decide) h
  · replace h := h.2 c
    refine z_iload_n O dX15_harm_16 rfl 2 rfl ?_
    refine z_iconst (v := 0) O dX15_harm_17 rfl ?_
    refine z_bipush (v := 22) O dX15_harm_18 rfl ?_
    refine z_callS0 (As := [.int x2, .int 0, .int 22]) O zc_X15_135 h rfl (zRm_of hR (by decide) (by decide)) (Nat.le_of_ble_eq_true rfl) dX15_harm_20 rfl rfl rfl (fun M4 v h => ?_)
    obtain ⟨r5, rfl, h⟩ := h
    refine z_if_eq O 37 dX15_harm_23 (by decide) (fun c => ?_) (fun c => ?_)
    · replace h := h.1 c
      refine z_iconst (v := 0) O dX15_harm_37 rfl ?_
      exact z_zret O dX15_harm_38 (by decide) h
    · replace h := h.2 c
      refine z_iload_n O dX15_harm_26 rfl 3 rfl ?_
      refine z_iconst (v := 1) O dX15_harm_27 rfl ?_
      refine z_sipush (v := 255) O dX15_harm_28 rfl ?_
      refine z_callS0 (As := [.int x3, .int 1, .int 255]) O zc_X15_135 h rfl (zRm_of hR (by decide) (by decide)) (Nat.le_of_ble_eq_true rfl) dX15_harm_31 rfl rfl rfl (fun M6 v h => ?_)
      obtain ⟨r7, rfl, h⟩ := h
      refine z_if_ne O 39 dX15_harm_34 (by decide) (fun c => ?_) (fun c => ?_)
      · replace h := h.1 c
        refine z_iconst (v := 0) O dX15_harm_39 rfl ?_
        refine z_istore (lv' := [(4, .int 0), (0, .ref a0), (1, .int x1), (2, .int x2), (3, .int x3)]) O dX15_harm_40 (by decide) rfl ?_
        exact z_to [1, 2, 3, 4, 0] rfl h
      · replace h := h.2 c
        refine z_iconst (v := 0) O dX15_harm_37 rfl ?_
        exact z_zret O dX15_harm_38 (by decide) h
set_option maxRecDepth 100000 in
set_option maxHeartbeats 4000000 in
theorem b_X15_harm_42 {G : zG} {X : zX} (O : zOK G X cX15_harm 5 RX15 (some .boolean) "harm") (hR : X.R = rm_X15_harm) {M : zM} {n k : Nat} {a0 : Nat} {x1 : Int32} {x2 : Int32} {x3 : Int32} {x4 : Int32} (h : M.1 a0 = 15 ∧ ((M.2.2.1 a0 26) ≤ x4 → zW G X 5 M n k 84 [(0, .ref a0), (1, .int x1), (2, .int x2), (3, .int x3), (4, .int x4)] []) ∧ (¬ (M.2.2.1 a0 26) ≤ x4 → M.1 a0 = 15 ∧ ∃ b1 : Nat, M.2.2.2 a0 23 = some b1 ∧ M.1 b1 = 100 ∧ vp_in x4 (M.2.1 b1) ∧ M.1 a0 = 15 ∧ (¬ (M.2.2.1 b1 x4.toNatClampNeg) = ((M.2.2.1 a0 15) + x1) → ∀ y2 : Int32, y2 = x4 + 1 → zW G X 5 M n k 42 [(0, .ref a0), (1, .int x1), (2, .int x2), (3, .int x3), (4, .int y2)] []) ∧ ((M.2.2.1 b1 x4.toNatClampNeg) = ((M.2.2.1 a0 15) + x1) → M.1 a0 = 15 ∧ ∃ b3 : Nat, M.2.2.2 a0 24 = some b3 ∧ M.1 b3 = 100 ∧ vp_in x4 (M.2.1 b3) ∧ ((M.2.2.1 b3 x4.toNatClampNeg) = x2 → zW G X 5 M n k 84 [(0, .ref a0), (1, .int x1), (2, .int x2), (3, .int x3), (4, .int x4)] []) ∧ (¬ (M.2.2.1 b3 x4.toNatClampNeg) = x2 → ∀ y4 : Int32, y4 = x4 + 1 → zW G X 5 M n k 42 [(0, .ref a0), (1, .int x1), (2, .int x2), (3, .int x3), (4, .int y4)] [])))) : zW G X 5 M n k 42 [(0, .ref a0), (1, .int x1), (2, .int x2), (3, .int x3), (4, .int x4)] [] := by
  refine z_iload O dX15_harm_42 4 rfl ?_
  refine z_aload_n O dX15_harm_44 rfl 0 rfl ?_
  obtain ⟨hk, h⟩ := h
  refine z_geti O zf_X15_295_14 dX15_harm_45 hk ?_
  refine z_icmp_ge O 84 dX15_harm_48 (by decide) (fun c => ?_) (fun c => ?_)
  · replace h := h.1 c
    exact h
  · replace h := h.2 c
    refine z_aload_n O dX15_harm_51 rfl 0 rfl ?_
    obtain ⟨hk, b1, hr, h⟩ := h
    refine z_getr O zf_X15_50_14 dX15_harm_52 hk hr ?_
    refine z_iload O dX15_harm_55 4 rfl ?_
    obtain ⟨hk, hi, h⟩ := h
    refine z_iald O dX15_harm_57 hk hi ?_
    refine z_aload_n O dX15_harm_58 rfl 0 rfl ?_
    obtain ⟨hk, h⟩ := h
    refine z_geti O zf_X15_298_14 dX15_harm_59 hk ?_
    refine z_iload_n O dX15_harm_62 rfl 1 rfl ?_
    refine z_iadd O dX15_harm_63 ?_
    refine z_icmp_ne O 78 dX15_harm_64 (by decide) (fun c => ?_) (fun c => ?_)
    · replace h := h.1 c
      obtain ⟨y2, ey2⟩ : ∃ y : Int32, y = x4 + 1 := ⟨_, rfl⟩
      replace h := h y2 ey2
      refine z_iinc (v := y2) (lv' := [(4, .int y2), (0, .ref a0), (1, .int x1), (2, .int x2), (3, .int x3)]) O dX15_harm_78 (q := 4) rfl (by rw [ey2]; rfl) (by decide) rfl ?_
      refine z_goto O 42 dX15_harm_81 (by decide) ?_
      exact z_to [1, 2, 3, 4, 0] rfl h
    · replace h := h.2 c
      refine z_aload_n O dX15_harm_67 rfl 0 rfl ?_
      obtain ⟨hk, b3, hr, h⟩ := h
      refine z_getr O zf_X15_53_14 dX15_harm_68 hk hr ?_
      refine z_iload O dX15_harm_71 4 rfl ?_
      obtain ⟨hk, hi, h⟩ := h
      refine z_iald O dX15_harm_73 hk hi ?_
      refine z_iload_n O dX15_harm_74 rfl 2 rfl ?_
      refine z_icmp_eq O 84 dX15_harm_75 (by decide) (fun c => ?_) (fun c => ?_)
      · replace h := h.1 c
        exact h
      · replace h := h.2 c
        obtain ⟨y4, ey4⟩ : ∃ y : Int32, y = x4 + 1 := ⟨_, rfl⟩
        replace h := h y4 ey4
        refine z_iinc (v := y4) (lv' := [(4, .int y4), (0, .ref a0), (1, .int x1), (2, .int x2), (3, .int x3)]) O dX15_harm_78 (q := 4) rfl (by rw [ey4]; rfl) (by decide) rfl ?_
        refine z_goto O 42 dX15_harm_81 (by decide) ?_
        exact z_to [1, 2, 3, 4, 0] rfl h
set_option maxRecDepth 100000 in
set_option maxHeartbeats 4000000 in
theorem b_X15_harm_84 {G : zG} {X : zX} (O : zOK G X cX15_harm 5 RX15 (some .boolean) "harm") (hR : X.R = rm_X15_harm) {M : zM} {n k : Nat} {a0 : Nat} {x1 : Int32} {x2 : Int32} {x3 : Int32} {x4 : Int32} (h : (¬ x4 = 64 → M.1 a0 = 15 ∧ (¬ x4 = (M.2.2.1 a0 26) → zW G X 5 M n k 112 [(0, .ref a0), (1, .int x1), (2, .int x2), (3, .int x3), (4, .int x4)] []) ∧ (x4 = (M.2.2.1 a0 26) → M.1 a0 = 15 ∧ M.1 a0 = 15 ∧ ∀ M1 : zM, M1 = zi M a0 26 ((M.2.2.1 a0 26) + 1) → zW G X 5 M1 n k 112 [(0, .ref a0), (1, .int x1), (2, .int x2), (3, .int x3), (4, .int x4)] [])) ∧ (x4 = 64 → X.q M (some (.int 0)))) : zW G X 5 M n k 84 [(0, .ref a0), (1, .int x1), (2, .int x2), (3, .int x3), (4, .int x4)] [] := by
  refine z_iload O dX15_harm_84 4 rfl ?_
  refine z_bipush (v := 64) O dX15_harm_86 rfl ?_
  refine z_icmp_ne O 93 dX15_harm_88 (by decide) (fun c => ?_) (fun c => ?_)
  · replace h := h.1 c
    refine z_iload O dX15_harm_93 4 rfl ?_
    refine z_aload_n O dX15_harm_95 rfl 0 rfl ?_
    obtain ⟨hk, h⟩ := h
    refine z_geti O zf_X15_295_14 dX15_harm_96 hk ?_
    refine z_icmp_ne O 112 dX15_harm_99 (by decide) (fun c => ?_) (fun c => ?_)
    · replace h := h.1 c
      exact h
    · replace h := h.2 c
      refine z_aload_n O dX15_harm_102 rfl 0 rfl ?_
      refine z_dup O dX15_harm_103 rfl ?_
      obtain ⟨hk, h⟩ := h
      refine z_geti O zf_X15_295_14 dX15_harm_104 hk ?_
      refine z_iconst (v := 1) O dX15_harm_107 rfl ?_
      refine z_iadd O dX15_harm_108 ?_
      obtain ⟨hk, h⟩ := h
      refine z_puti O zp_X15_295_14 dX15_harm_109 hk ?_
      generalize eM1 : zi M a0 26 ((M.2.2.1 a0 26) + 1) = M1
      replace h := h M1 eM1.symm
      exact h
  · replace h := h.2 c
    refine z_iconst (v := 0) O dX15_harm_91 rfl ?_
    exact z_zret O dX15_harm_92 (by decide) h
set_option maxRecDepth 100000 in
set_option maxHeartbeats 4000000 in
theorem b_X15_harm_112 {G : zG} {X : zX} (O : zOK G X cX15_harm 5 RX15 (some .boolean) "harm") (hR : X.R = rm_X15_harm) {M : zM} {n k : Nat} {a0 : Nat} {x1 : Int32} {x2 : Int32} {x3 : Int32} {x4 : Int32} (h : M.1 a0 = 15 ∧ ∃ b1 : Nat, M.2.2.2 a0 23 = some b1 ∧ M.1 a0 = 15 ∧ M.1 b1 = 100 ∧ vp_in x4 (M.2.1 b1) ∧ ∀ M2 : zM, M2 = zi M b1 (x4.toNatClampNeg) ((M.2.2.1 a0 15) + x1) → M2.1 a0 = 15 ∧ ∃ b3 : Nat, M2.2.2.2 a0 24 = some b3 ∧ M2.1 b3 = 100 ∧ vp_in x4 (M2.2.1 b3) ∧ ∀ M4 : zM, M4 = zi M2 b3 (x4.toNatClampNeg) x2 → M4.1 a0 = 15 ∧ ∃ b5 : Nat, M4.2.2.2 a0 25 = some b5 ∧ M4.1 b5 = 100 ∧ vp_in x4 (M4.2.1 b5) ∧ ∀ M6 : zM, M6 = zi M4 b5 (x4.toNatClampNeg) x3 → X.q M6 (some (.int 1))) : zW G X 5 M n k 112 [(0, .ref a0), (1, .int x1), (2, .int x2), (3, .int x3), (4, .int x4)] [] := by
  refine z_aload_n O dX15_harm_112 rfl 0 rfl ?_
  obtain ⟨hk, b1, hr, h⟩ := h
  refine z_getr O zf_X15_50_14 dX15_harm_113 hk hr ?_
  refine z_iload O dX15_harm_116 4 rfl ?_
  refine z_aload_n O dX15_harm_118 rfl 0 rfl ?_
  obtain ⟨hk, h⟩ := h
  refine z_geti O zf_X15_298_14 dX15_harm_119 hk ?_
  refine z_iload_n O dX15_harm_122 rfl 1 rfl ?_
  refine z_iadd O dX15_harm_123 ?_
  obtain ⟨hk, hi, h⟩ := h
  refine z_iast O dX15_harm_124 hk hi ?_
  generalize eM2 : zi M b1 (x4.toNatClampNeg) ((M.2.2.1 a0 15) + x1) = M2
  replace h := h M2 eM2.symm
  refine z_aload_n O dX15_harm_125 rfl 0 rfl ?_
  obtain ⟨hk, b3, hr, h⟩ := h
  refine z_getr O zf_X15_53_14 dX15_harm_126 hk hr ?_
  refine z_iload O dX15_harm_129 4 rfl ?_
  refine z_iload_n O dX15_harm_131 rfl 2 rfl ?_
  obtain ⟨hk, hi, h⟩ := h
  refine z_iast O dX15_harm_132 hk hi ?_
  generalize eM4 : zi M2 b3 (x4.toNatClampNeg) x2 = M4
  replace h := h M4 eM4.symm
  refine z_aload_n O dX15_harm_133 rfl 0 rfl ?_
  obtain ⟨hk, b5, hr, h⟩ := h
  refine z_getr O zf_X15_56_14 dX15_harm_134 hk hr ?_
  refine z_iload O dX15_harm_137 4 rfl ?_
  refine z_iload_n O dX15_harm_139 rfl 3 rfl ?_
  obtain ⟨hk, hi, h⟩ := h
  refine z_iast O dX15_harm_140 hk hi ?_
  generalize eM6 : zi M4 b5 (x4.toNatClampNeg) x3 = M6
  replace h := h M6 eM6.symm
  refine z_iconst (v := 1) O dX15_harm_141 rfl ?_
  exact z_zret O dX15_harm_142 (by decide) h
set_option maxRecDepth 100000 in
set_option maxHeartbeats 4000000 in
theorem b_X15_step_0 {G : zG} {X : zX} (O : zOK G X cX15_step 5 RX15 (some .int) "step") (hR : X.R = rm_X15_step) {M : zM} {n k : Nat} {a0 : Nat} {x1 : Int32} (h : zC G yX15_in cX15_in 3 (some .boolean) rm_X15_in M [.int x1, .int 1, .int 200] (fun M1 v => ∃ r2 : Int32, v = some (.int r2) ∧ (r2 = 0 → zW G X 5 M1 n k 17 [(0, .ref a0), (1, .int x1)] [.int 1, .ref a0]) ∧ (¬ r2 = 0 → zW G X 5 M1 n k 17 [(0, .ref a0), (1, .int x1)] [.int 0, .ref a0]))) : zW G X 5 M n k 0 [(0, .ref a0), (1, .int x1)] [] := by
  refine z_aload_n O dX15_step_0 rfl 0 rfl ?_
  refine z_iload_n O dX15_step_1 rfl 1 rfl ?_
  refine z_iconst (v := 1) O dX15_step_2 rfl ?_
  refine z_sipush (v := 200) O dX15_step_3 rfl ?_
  refine z_callS0 (As := [.int x1, .int 1, .int 200]) O zc_X15_135 h rfl (zRm_of hR (by decide) (by decide)) (Nat.le_of_ble_eq_true rfl) dX15_step_6 rfl rfl rfl (fun M1 v h => ?_)
  obtain ⟨r2, rfl, h⟩ := h
  refine z_if_eq O 16 dX15_step_9 (by decide) (fun c => ?_) (fun c => ?_)
  · replace h := h.1 c
    refine z_iconst (v := 1) O dX15_step_16 rfl ?_
    exact h
  · replace h := h.2 c
    refine z_iconst (v := 0) O dX15_step_12 rfl ?_
    refine z_goto O 17 dX15_step_13 (by decide) ?_
    exact h
set_option maxRecDepth 100000 in
set_option maxHeartbeats 4000000 in
theorem b_X15_step_17 {G : zG} {X : zX} (O : zOK G X cX15_step 5 RX15 (some .int) "step") (hR : X.R = rm_X15_step) {M : zM} {n k : Nat} {a0 : Nat} {x1 : Int32} {s0 : Int32} {b1 : Nat} (h : M.1 b1 = 15 ∧ ∀ M1 : zM, M1 = zi M b1 0 s0 → M1.1 a0 = 15 ∧ ((M1.2.2.1 a0 0) ≤ 0 → M1.1 a0 = 15 ∧ ∀ y2 : Int32, y2 = (M1.2.2.1 a0 15) → zW G X 5 M1 n k 36 [(0, .ref a0), (1, .int x1), (2, .int y2), (3, .int 0)] []) ∧ (¬ (M1.2.2.1 a0 0) ≤ 0 → X.q M1 (some (.int 0)))) : zW G X 5 M n k 17 [(0, .ref a0), (1, .int x1)] [.int s0, .ref b1] := by
  obtain ⟨hk, h⟩ := h
  refine z_puti O zp_X15_93_14 dX15_step_17 hk ?_
  generalize eM1 : zi M b1 0 s0 = M1
  replace h := h M1 eM1.symm
  refine z_aload_n O dX15_step_20 rfl 0 rfl ?_
  obtain ⟨hk, h⟩ := h
  refine z_geti O zf_X15_93_14 dX15_step_21 hk ?_
  refine z_if_le O 29 dX15_step_24 (by decide) (fun c => ?_) (fun c => ?_)
  · replace h := h.1 c
    refine z_aload_n O dX15_step_29 rfl 0 rfl ?_
    obtain ⟨hk, h⟩ := h
    refine z_geti O zf_X15_298_14 dX15_step_30 hk ?_
    refine z_topi (fun y2 ey2 => ?_)
    replace h := h y2 ey2
    refine z_istore_n (lv' := [(2, .int y2), (0, .ref a0), (1, .int x1)]) O dX15_step_33 rfl (by decide) rfl ?_
    refine z_iconst (v := 0) O dX15_step_34 rfl ?_
    refine z_istore_n (lv' := [(3, .int 0), (2, .int y2), (0, .ref a0), (1, .int x1)]) O dX15_step_35 rfl (by decide) rfl ?_
    exact z_to [2, 3, 1, 0] rfl h
  · replace h := h.2 c
    refine z_iconst (v := 0) O dX15_step_27 rfl ?_
    exact z_iret O dX15_step_28 h
set_option maxRecDepth 100000 in
set_option maxHeartbeats 4000000 in
theorem b_X15_step_36 {G : zG} {X : zX} (O : zOK G X cX15_step 5 RX15 (some .int) "step") (hR : X.R = rm_X15_step) {M : zM} {n k : Nat} {a0 : Nat} {x1 : Int32} {x2 : Int32} {x3 : Int32} (h : (x1 ≤ x3 → M.1 a0 = 15 ∧ X.q M (some (.int ((M.2.2.1 a0 15) - x2)))) ∧ (¬ x1 ≤ x3 → M.1 a0 = 15 ∧ M.1 a0 = 15 ∧ ∀ M1 : zM, M1 = zi M a0 1 ((M.2.2.1 a0 1) + 1) → zW G X 5 M1 n k 54 [(0, .ref a0), (1, .int x1), (2, .int x2), (3, .int x3), (4, .int 0)] [])) : zW G X 5 M n k 36 [(0, .ref a0), (1, .int x1), (2, .int x2), (3, .int x3)] [] := by
  refine z_iload_n O dX15_step_36 rfl 3 rfl ?_
  refine z_iload_n O dX15_step_37 rfl 1 rfl ?_
  refine z_icmp_ge O 110 dX15_step_38 (by decide) (fun c => ?_) (fun c => ?_)
  · replace h := h.1 c
    refine z_aload_n O dX15_step_110 rfl 0 rfl ?_
    obtain ⟨hk, h⟩ := h
    refine z_geti O zf_X15_298_14 dX15_step_111 hk ?_
    refine z_iload_n O dX15_step_114 rfl 2 rfl ?_
    refine z_isub O dX15_step_115 ?_
    exact z_iret O dX15_step_116 h
  · replace h := h.2 c
    refine z_aload_n O dX15_step_41 rfl 0 rfl ?_
    refine z_dup O dX15_step_42 rfl ?_
    obtain ⟨hk, h⟩ := h
    refine z_geti O zf_X15_112_14 dX15_step_43 hk ?_
    refine z_iconst (v := 1) O dX15_step_46 rfl ?_
    refine z_iadd O dX15_step_47 ?_
    obtain ⟨hk, h⟩ := h
    refine z_puti O zp_X15_112_14 dX15_step_48 hk ?_
    generalize eM1 : zi M a0 1 ((M.2.2.1 a0 1) + 1) = M1
    replace h := h M1 eM1.symm
    refine z_iconst (v := 0) O dX15_step_51 rfl ?_
    refine z_istore (lv' := [(4, .int 0), (0, .ref a0), (1, .int x1), (2, .int x2), (3, .int x3)]) O dX15_step_52 (by decide) rfl ?_
    exact z_to [1, 2, 3, 4, 0] rfl h
set_option maxRecDepth 100000 in
set_option maxHeartbeats 4000000 in
theorem b_X15_step_54 {G : zG} {X : zX} (O : zOK G X cX15_step 5 RX15 (some .int) "step") (hR : X.R = rm_X15_step) {M : zM} {n k : Nat} {a0 : Nat} {x1 : Int32} {x2 : Int32} {x3 : Int32} {x4 : Int32} (h : M.1 a0 = 15 ∧ ((M.2.2.1 a0 4) ≤ x4 → zW G X 5 M n k 78 [(0, .ref a0), (1, .int x1), (2, .int x2), (3, .int x3), (4, .int 0)] []) ∧ (¬ (M.2.2.1 a0 4) ≤ x4 → M.1 a0 = 15 ∧ zC G yX15_goesOn cX15_goesOn 7 none rm_X15_goesOn M [.ref a0, .int x4] (fun M1 v => v = none ∧ ∀ y2 : Int32, y2 = x4 + 1 → zW G X 5 M1 n k 54 [(0, .ref a0), (1, .int x1), (2, .int x2), (3, .int x3), (4, .int y2)] []))) : zW G X 5 M n k 54 [(0, .ref a0), (1, .int x1), (2, .int x2), (3, .int x3), (4, .int x4)] [] := by
  refine z_iload O dX15_step_54 4 rfl ?_
  refine z_aload_n O dX15_step_56 rfl 0 rfl ?_
  obtain ⟨hk, h⟩ := h
  refine z_geti O zf_X15_132_14 dX15_step_57 hk ?_
  refine z_icmp_ge O 75 dX15_step_60 (by decide) (fun c => ?_) (fun c => ?_)
  · replace h := h.1 c
    refine z_iconst (v := 0) O dX15_step_75 rfl ?_
    refine z_istore (lv' := [(4, .int 0), (0, .ref a0), (1, .int x1), (2, .int x2), (3, .int x3)]) O dX15_step_76 (by decide) rfl ?_
    exact z_to [1, 2, 3, 4, 0] rfl h
  · replace h := h.2 c
    refine z_aload_n O dX15_step_63 rfl 0 rfl ?_
    refine z_iload O dX15_step_64 4 rfl ?_
    obtain ⟨hk, h⟩ := h
    refine z_callV0 (As := [.int x4]) O zc_X15_436 h hk rfl (zRm_of hR (by decide) (by decide)) (Nat.le_of_ble_eq_true rfl) dX15_step_66 rfl rfl rfl (fun M1 v h => ?_)
    obtain ⟨rfl, h⟩ := h
    obtain ⟨y2, ey2⟩ : ∃ y : Int32, y = x4 + 1 := ⟨_, rfl⟩
    replace h := h y2 ey2
    refine z_iinc (v := y2) (lv' := [(4, .int y2), (0, .ref a0), (1, .int x1), (2, .int x2), (3, .int x3)]) O dX15_step_69 (q := 4) rfl (by rw [ey2]; rfl) (by decide) rfl ?_
    refine z_goto O 54 dX15_step_72 (by decide) ?_
    exact z_to [1, 2, 3, 4, 0] rfl h
set_option maxRecDepth 100000 in
set_option maxHeartbeats 4000000 in
theorem b_X15_step_78 {G : zG} {X : zX} (O : zOK G X cX15_step 5 RX15 (some .int) "step") (hR : X.R = rm_X15_step) {M : zM} {n k : Nat} {a0 : Nat} {x1 : Int32} {x2 : Int32} {x3 : Int32} {x4 : Int32} (h : M.1 a0 = 15 ∧ ((M.2.2.1 a0 7) ≤ x4 → ∀ y1 : Int32, y1 = x3 + 1 → zW G X 5 M n k 36 [(0, .ref a0), (1, .int x1), (2, .int x2), (3, .int y1)] []) ∧ (¬ (M.2.2.1 a0 7) ≤ x4 → M.1 a0 = 15 ∧ ∃ b2 : Nat, M.2.2.2 a0 8 = some b2 ∧ M.1 b2 = 110 ∧ vp_in x4 (M.2.1 b2) ∧ ∃ b3 : Nat, M.2.2.2 b2 x4.toNatClampNeg = some b3 ∧ M.1 a0 = 15 ∧ zC G yX15_times cX15_times 2 none rm_X15_times M [.ref a0, .ref b3] (fun M4 v => v = none ∧ ∀ y5 : Int32, y5 = x4 + 1 → zW G X 5 M4 n k 78 [(0, .ref a0), (1, .int x1), (2, .int x2), (3, .int x3), (4, .int y5)] []))) : zW G X 5 M n k 78 [(0, .ref a0), (1, .int x1), (2, .int x2), (3, .int x3), (4, .int x4)] [] := by
  refine z_iload O dX15_step_78 4 rfl ?_
  refine z_aload_n O dX15_step_80 rfl 0 rfl ?_
  obtain ⟨hk, h⟩ := h
  refine z_geti O zf_X15_139_14 dX15_step_81 hk ?_
  refine z_icmp_ge O 104 dX15_step_84 (by decide) (fun c => ?_) (fun c => ?_)
  · replace h := h.1 c
    obtain ⟨y1, ey1⟩ : ∃ y : Int32, y = x3 + 1 := ⟨_, rfl⟩
    replace h := h y1 ey1
    refine z_iinc (v := y1) (lv' := [(3, .int y1), (0, .ref a0), (1, .int x1), (2, .int x2), (4, .int x4)]) O dX15_step_104 (q := 3) rfl (by rw [ey1]; rfl) (by decide) rfl ?_
    refine z_goto O 36 dX15_step_107 (by decide) ?_
    exact z_to [1, 2, 3, 0] rfl h
  · replace h := h.2 c
    refine z_aload_n O dX15_step_87 rfl 0 rfl ?_
    refine z_aload_n O dX15_step_88 rfl 0 rfl ?_
    obtain ⟨hk, b2, hr, h⟩ := h
    refine z_getr O zf_X15_21_14 dX15_step_89 hk hr ?_
    refine z_iload O dX15_step_92 4 rfl ?_
    obtain ⟨hk, hi, b3, hr, h⟩ := h
    refine z_ald (t := 8) O rfl dX15_step_94 hk hi hr ?_
    obtain ⟨hk, h⟩ := h
    refine z_callV0 (As := [.ref b3]) O zc_X15_439 h hk rfl (zRm_of hR (by decide) (by decide)) (Nat.le_of_ble_eq_true rfl) dX15_step_95 rfl rfl rfl (fun M4 v h => ?_)
    obtain ⟨rfl, h⟩ := h
    obtain ⟨y5, ey5⟩ : ∃ y : Int32, y = x4 + 1 := ⟨_, rfl⟩
    replace h := h y5 ey5
    refine z_iinc (v := y5) (lv' := [(4, .int y5), (0, .ref a0), (1, .int x1), (2, .int x2), (3, .int x3)]) O dX15_step_98 (q := 4) rfl (by rw [ey5]; rfl) (by decide) rfl ?_
    refine z_goto O 78 dX15_step_101 (by decide) ?_
    exact z_to [1, 2, 3, 4, 0] rfl h
set_option maxRecDepth 100000 in
set_option maxHeartbeats 4000000 in
theorem b_X15_sent_0 {G : zG} {X : zX} (O : zOK G X cX15_sent 2 RX15 (some .int) "sent") (hR : X.R = rm_X15_sent) {M : zM} {n k : Nat} {a0 : Nat} {x1 : Int32} (h : M.1 a0 = 15 ∧ ((M.2.2.1 a0 22) ≤ 0 → zW G X 2 M n k 31 [(0, .ref a0), (1, .int x1)] [.ref a0]) ∧ (¬ (M.2.2.1 a0 22) ≤ 0 → (x1 = (-1) → zW G X 2 M n k 27 [(0, .ref a0), (1, .int x1)] [.ref a0]) ∧ (¬ x1 = (-1) → M.1 a0 = 15 ∧ zC G yX15_in cX15_in 3 (some .boolean) rm_X15_in M [.int x1, .int 0, .int ((M.2.2.1 a0 22) - 1)] (fun M1 v => ∃ r2 : Int32, v = some (.int r2) ∧ (r2 = 0 → zW G X 2 M1 n k 31 [(0, .ref a0), (1, .int x1)] [.ref a0]) ∧ (¬ r2 = 0 → zW G X 2 M1 n k 27 [(0, .ref a0), (1, .int x1)] [.ref a0]))))) : zW G X 2 M n k 0 [(0, .ref a0), (1, .int x1)] [] := by
  refine z_aload_n O dX15_sent_0 rfl 0 rfl ?_
  refine z_aload_n O dX15_sent_1 rfl 0 rfl ?_
  obtain ⟨hk, h⟩ := h
  refine z_geti O zf_X15_292_14 dX15_sent_2 hk ?_
  refine z_if_le O 31 dX15_sent_5 (by decide) (fun c => ?_) (fun c => ?_)
  · replace h := h.1 c
    exact h
  · replace h := h.2 c
    refine z_iload_n O dX15_sent_8 rfl 1 rfl ?_
    refine z_iconst (v := (-1)) O dX15_sent_9 rfl ?_
    refine z_icmp_eq O 27 dX15_sent_10 (by decide) (fun c => ?_) (fun c => ?_)
    · replace h := h.1 c
      exact h
    · replace h := h.2 c
      refine z_iload_n O dX15_sent_13 rfl 1 rfl ?_
      refine z_iconst (v := 0) O dX15_sent_14 rfl ?_
      refine z_aload_n O dX15_sent_15 rfl 0 rfl ?_
      obtain ⟨hk, h⟩ := h
      refine z_geti O zf_X15_292_14 dX15_sent_16 hk ?_
      refine z_iconst (v := 1) O dX15_sent_19 rfl ?_
      refine z_isub O dX15_sent_20 ?_
      refine z_callS0 (As := [.int x1, .int 0, .int ((M.2.2.1 a0 22) - 1)]) O zc_X15_135 h rfl (zRm_of hR (by decide) (by decide)) (Nat.le_of_ble_eq_true rfl) dX15_sent_21 rfl rfl rfl (fun M1 v h => ?_)
      obtain ⟨r2, rfl, h⟩ := h
      refine z_if_eq O 31 dX15_sent_24 (by decide) (fun c => ?_) (fun c => ?_)
      · replace h := h.1 c
        exact h
      · replace h := h.2 c
        exact h
set_option maxRecDepth 100000 in
set_option maxHeartbeats 4000000 in
theorem b_X15_sent_31 {G : zG} {X : zX} (O : zOK G X cX15_sent 2 RX15 (some .int) "sent") (hR : X.R = rm_X15_sent) {M : zM} {n k : Nat} {a0 : Nat} {x1 : Int32} {b0 : Nat} (h : zW G X 2 M n k 32 [(0, .ref a0), (1, .int x1)] [.int 1, .ref b0]) : zW G X 2 M n k 31 [(0, .ref a0), (1, .int x1)] [.ref b0] := by
  refine z_iconst (v := 1) O dX15_sent_31 rfl ?_
  exact h
set_option maxRecDepth 100000 in
set_option maxHeartbeats 4000000 in
theorem b_X15_sent_27 {G : zG} {X : zX} (O : zOK G X cX15_sent 2 RX15 (some .int) "sent") (hR : X.R = rm_X15_sent) {M : zM} {n k : Nat} {a0 : Nat} {x1 : Int32} {b0 : Nat} (h : zW G X 2 M n k 32 [(0, .ref a0), (1, .int x1)] [.int 0, .ref b0]) : zW G X 2 M n k 27 [(0, .ref a0), (1, .int x1)] [.ref b0] := by
  refine z_iconst (v := 0) O dX15_sent_27 rfl ?_
  refine z_goto O 32 dX15_sent_28 (by decide) ?_
  exact h
set_option maxRecDepth 100000 in
set_option maxHeartbeats 4000000 in
theorem b_X15_sent_32 {G : zG} {X : zX} (O : zOK G X cX15_sent 2 RX15 (some .int) "sent") (hR : X.R = rm_X15_sent) {M : zM} {n k : Nat} {a0 : Nat} {x1 : Int32} {s0 : Int32} {b1 : Nat} (h : M.1 b1 = 15 ∧ ∀ M1 : zM, M1 = zi M b1 0 s0 → M1.1 a0 = 15 ∧ ((M1.2.2.1 a0 0) ≤ 0 → (¬ x1 = (-1) → M1.1 a0 = 15 ∧ ∃ b2 : Nat, M1.2.2.2 a0 21 = some b2 ∧ M1.1 b2 = 100 ∧ vp_in x1 (M1.2.1 b2) ∧ X.q M1 (some (.int (M1.2.2.1 b2 x1.toNatClampNeg)))) ∧ (x1 = (-1) → M1.1 a0 = 15 ∧ X.q M1 (some (.int (M1.2.2.1 a0 22))))) ∧ (¬ (M1.2.2.1 a0 0) ≤ 0 → X.q M1 (some (.int 0)))) : zW G X 2 M n k 32 [(0, .ref a0), (1, .int x1)] [.int s0, .ref b1] := by
  obtain ⟨hk, h⟩ := h
  refine z_puti O zp_X15_93_14 dX15_sent_32 hk ?_
  generalize eM1 : zi M b1 0 s0 = M1
  replace h := h M1 eM1.symm
  refine z_aload_n O dX15_sent_35 rfl 0 rfl ?_
  obtain ⟨hk, h⟩ := h
  refine z_geti O zf_X15_93_14 dX15_sent_36 hk ?_
  refine z_if_le O 46 dX15_sent_39 (by decide) (fun c => ?_) (fun c => ?_)
  · replace h := h.1 c
    refine z_iload_n O dX15_sent_46 rfl 1 rfl ?_
    refine z_iconst (v := (-1)) O dX15_sent_47 rfl ?_
    refine z_icmp_ne O 58 dX15_sent_48 (by decide) (fun c => ?_) (fun c => ?_)
    · replace h := h.1 c
      refine z_aload_n O dX15_sent_58 rfl 0 rfl ?_
      obtain ⟨hk, b2, hr, h⟩ := h
      refine z_getr O zf_X15_47_14 dX15_sent_59 hk hr ?_
      refine z_iload_n O dX15_sent_62 rfl 1 rfl ?_
      obtain ⟨hk, hi, h⟩ := h
      refine z_iald O dX15_sent_63 hk hi ?_
      exact z_iret O dX15_sent_64 h
    · replace h := h.2 c
      refine z_aload_n O dX15_sent_51 rfl 0 rfl ?_
      obtain ⟨hk, h⟩ := h
      refine z_geti O zf_X15_292_14 dX15_sent_52 hk ?_
      refine z_goto O 64 dX15_sent_55 (by decide) ?_
      exact z_iret O dX15_sent_64 h
  · replace h := h.2 c
    refine z_iconst (v := 0) O dX15_sent_42 rfl ?_
    refine z_goto O 64 dX15_sent_43 (by decide) ?_
    exact z_iret O dX15_sent_64 h
set_option maxRecDepth 100000 in
set_option maxHeartbeats 4000000 in
theorem b_X15_count_0 {G : zG} {X : zX} (O : zOK G X cX15_count 4 RX15 (some .int) "count") (hR : X.R = rm_X15_count) {M : zM} {n k : Nat} {a0 : Nat} {x1 : Int32} (h : M.1 a0 = 15 ∧ ∀ M1 : zM, M1 = zi M a0 0 0 → (x1.toInt < 0 ∨ 13 < x1.toInt → X.q M1 (some (.int (-1)))) ∧ (x1.toInt = 0 → M1.1 a0 = 15 ∧ X.q M1 (some (.int (M1.2.2.1 a0 1)))) ∧ (x1.toInt = 1 → M1.1 a0 = 15 ∧ X.q M1 (some (.int (M1.2.2.1 a0 4)))) ∧ (x1.toInt = 2 → M1.1 a0 = 15 ∧ X.q M1 (some (.int (M1.2.2.1 a0 7)))) ∧ (x1.toInt = 3 → M1.1 a0 = 15 ∧ X.q M1 (some (.int (M1.2.2.1 a0 9)))) ∧ (x1.toInt = 4 → M1.1 a0 = 15 ∧ X.q M1 (some (.int (M1.2.2.1 a0 15)))) ∧ (x1.toInt = 5 → M1.1 a0 = 15 ∧ X.q M1 (some (.int (M1.2.2.1 a0 16)))) ∧ (x1.toInt = 6 → M1.1 a0 = 15 ∧ X.q M1 (some (.int (M1.2.2.1 a0 17)))) ∧ (x1.toInt = 7 → M1.1 a0 = 15 ∧ X.q M1 (some (.int (M1.2.2.1 a0 3)))) ∧ (x1.toInt = 8 → M1.1 a0 = 15 ∧ X.q M1 (some (.int (M1.2.2.1 a0 18)))) ∧ (x1.toInt = 9 → M1.1 a0 = 15 ∧ X.q M1 (some (.int (M1.2.2.1 a0 19)))) ∧ (x1.toInt = 10 → M1.1 a0 = 15 ∧ X.q M1 (some (.int (M1.2.2.1 a0 20)))) ∧ (x1.toInt = 11 → zW G X 4 M1 n k 137 [(0, .ref a0), (2, .int 0), (3, .int 0)] []) ∧ (x1.toInt = 12 → M1.1 a0 = 15 ∧ X.q M1 (some (.int (M1.2.2.1 a0 26)))) ∧ (x1.toInt = 13 → M1.1 a0 = 15 ∧ X.q M1 (some (.int (M1.2.2.1 a0 39))))) : zW G X 4 M n k 0 [(0, .ref a0), (1, .int x1)] [] := by
  refine z_aload_n O dX15_count_0 rfl 0 rfl ?_
  refine z_iconst (v := 0) O dX15_count_1 rfl ?_
  obtain ⟨hk, h⟩ := h
  refine z_puti O zp_X15_93_14 dX15_count_2 hk ?_
  generalize eM1 : zi M a0 0 0 = M1
  replace h := h M1 eM1.symm
  refine z_iconst (v := 0) O dX15_count_5 rfl ?_
  refine z_istore_n (lv' := [(2, .int 0), (0, .ref a0), (1, .int x1)]) O dX15_count_6 rfl (by decide) rfl ?_
  refine z_iload_n O dX15_count_7 rfl 2 rfl ?_
  rcases zsw x1 0 13 (by decide) with c | ⟨j, hj, c⟩
  · refine z_tsOut O 254 dX15_count_8 c (by decide) ?_
    replace h := h.1 c
    refine z_iconst (v := (-1)) O dX15_count_254 rfl ?_
    exact z_iret O dX15_count_255 h
  · replace h := h.2
    rcases zcas j 0 with hz | hz
    · subst hz
      replace h := h.1 (by rw [c]; rfl)
      refine z_tsIn (off := 72) O 80 dX15_count_8 (by rw [c]; decide) (by rw [c]; decide) (by rw [c]; rfl) (by decide) ?_
      refine z_aload_n O dX15_count_80 rfl 1 rfl ?_
      obtain ⟨hk, h⟩ := h
      refine z_geti O zf_X15_112_14 dX15_count_81 hk ?_
      exact z_iret O dX15_count_84 h
    · replace h := h.2
      rcases zcas j 1 with hz | hz
      · subst hz
        replace h := h.1 (by rw [c]; rfl)
        refine z_tsIn (off := 77) O 85 dX15_count_8 (by rw [c]; decide) (by rw [c]; decide) (by rw [c]; rfl) (by decide) ?_
        refine z_aload_n O dX15_count_85 rfl 1 rfl ?_
        obtain ⟨hk, h⟩ := h
        refine z_geti O zf_X15_132_14 dX15_count_86 hk ?_
        exact z_iret O dX15_count_89 h
      · replace h := h.2
        rcases zcas j 2 with hz | hz
        · subst hz
          replace h := h.1 (by rw [c]; rfl)
          refine z_tsIn (off := 82) O 90 dX15_count_8 (by rw [c]; decide) (by rw [c]; decide) (by rw [c]; rfl) (by decide) ?_
          refine z_aload_n O dX15_count_90 rfl 1 rfl ?_
          obtain ⟨hk, h⟩ := h
          refine z_geti O zf_X15_139_14 dX15_count_91 hk ?_
          exact z_iret O dX15_count_94 h
        · replace h := h.2
          rcases zcas j 3 with hz | hz
          · subst hz
            replace h := h.1 (by rw [c]; rfl)
            refine z_tsIn (off := 87) O 95 dX15_count_8 (by rw [c]; decide) (by rw [c]; decide) (by rw [c]; rfl) (by decide) ?_
            refine z_aload_n O dX15_count_95 rfl 1 rfl ?_
            obtain ⟨hk, h⟩ := h
            refine z_geti O zf_X15_142_14 dX15_count_96 hk ?_
            exact z_iret O dX15_count_99 h
          · replace h := h.2
            rcases zcas j 4 with hz | hz
            · subst hz
              replace h := h.1 (by rw [c]; rfl)
              refine z_tsIn (off := 92) O 100 dX15_count_8 (by rw [c]; decide) (by rw [c]; decide) (by rw [c]; rfl) (by decide) ?_
              refine z_aload_n O dX15_count_100 rfl 1 rfl ?_
              obtain ⟨hk, h⟩ := h
              refine z_geti O zf_X15_298_14 dX15_count_101 hk ?_
              exact z_iret O dX15_count_104 h
            · replace h := h.2
              rcases zcas j 5 with hz | hz
              · subst hz
                replace h := h.1 (by rw [c]; rfl)
                refine z_tsIn (off := 97) O 105 dX15_count_8 (by rw [c]; decide) (by rw [c]; decide) (by rw [c]; rfl) (by decide) ?_
                refine z_aload_n O dX15_count_105 rfl 1 rfl ?_
                obtain ⟨hk, h⟩ := h
                refine z_geti O zf_X15_390_14 dX15_count_106 hk ?_
                exact z_iret O dX15_count_109 h
              · replace h := h.2
                rcases zcas j 6 with hz | hz
                · subst hz
                  replace h := h.1 (by rw [c]; rfl)
                  refine z_tsIn (off := 102) O 110 dX15_count_8 (by rw [c]; decide) (by rw [c]; decide) (by rw [c]; rfl) (by decide) ?_
                  refine z_aload_n O dX15_count_110 rfl 1 rfl ?_
                  obtain ⟨hk, h⟩ := h
                  refine z_geti O zf_X15_393_14 dX15_count_111 hk ?_
                  exact z_iret O dX15_count_114 h
                · replace h := h.2
                  rcases zcas j 7 with hz | hz
                  · subst hz
                    replace h := h.1 (by rw [c]; rfl)
                    refine z_tsIn (off := 107) O 115 dX15_count_8 (by rw [c]; decide) (by rw [c]; decide) (by rw [c]; rfl) (by decide) ?_
                    refine z_aload_n O dX15_count_115 rfl 1 rfl ?_
                    obtain ⟨hk, h⟩ := h
                    refine z_geti O zf_X15_99_14 dX15_count_116 hk ?_
                    exact z_iret O dX15_count_119 h
                  · replace h := h.2
                    rcases zcas j 8 with hz | hz
                    · subst hz
                      replace h := h.1 (by rw [c]; rfl)
                      refine z_tsIn (off := 112) O 120 dX15_count_8 (by rw [c]; decide) (by rw [c]; decide) (by rw [c]; rfl) (by decide) ?_
                      refine z_aload_n O dX15_count_120 rfl 1 rfl ?_
                      obtain ⟨hk, h⟩ := h
                      refine z_geti O zf_X15_343_14 dX15_count_121 hk ?_
                      exact z_iret O dX15_count_124 h
                    · replace h := h.2
                      rcases zcas j 9 with hz | hz
                      · subst hz
                        replace h := h.1 (by rw [c]; rfl)
                        refine z_tsIn (off := 117) O 125 dX15_count_8 (by rw [c]; decide) (by rw [c]; decide) (by rw [c]; rfl) (by decide) ?_
                        refine z_aload_n O dX15_count_125 rfl 1 rfl ?_
                        obtain ⟨hk, h⟩ := h
                        refine z_geti O zf_X15_381_14 dX15_count_126 hk ?_
                        exact z_iret O dX15_count_129 h
                      · replace h := h.2
                        rcases zcas j 10 with hz | hz
                        · subst hz
                          replace h := h.1 (by rw [c]; rfl)
                          refine z_tsIn (off := 122) O 130 dX15_count_8 (by rw [c]; decide) (by rw [c]; decide) (by rw [c]; rfl) (by decide) ?_
                          refine z_aload_n O dX15_count_130 rfl 1 rfl ?_
                          obtain ⟨hk, h⟩ := h
                          refine z_geti O zf_X15_43_14 dX15_count_131 hk ?_
                          exact z_iret O dX15_count_134 h
                        · replace h := h.2
                          rcases zcas j 11 with hz | hz
                          · subst hz
                            replace h := h.1 (by rw [c]; rfl)
                            refine z_tsIn (off := 127) O 135 dX15_count_8 (by rw [c]; decide) (by rw [c]; decide) (by rw [c]; rfl) (by decide) ?_
                            refine z_iconst (v := 0) O dX15_count_135 rfl ?_
                            refine z_istore_n (lv' := [(3, .int 0), (2, .int 0), (0, .ref a0), (1, .int x1)]) O dX15_count_136 rfl (by decide) rfl ?_
                            exact z_to [2, 1, 0] rfl h
                          · replace h := h.2
                            rcases zcas j 12 with hz | hz
                            · subst hz
                              replace h := h.1 (by rw [c]; rfl)
                              refine z_tsIn (off := 236) O 244 dX15_count_8 (by rw [c]; decide) (by rw [c]; decide) (by rw [c]; rfl) (by decide) ?_
                              refine z_aload_n O dX15_count_244 rfl 1 rfl ?_
                              obtain ⟨hk, h⟩ := h
                              refine z_geti O zf_X15_295_14 dX15_count_245 hk ?_
                              exact z_iret O dX15_count_248 h
                            · replace h := h.2
                              have hz : j = 13 := by omega
                              subst hz
                              replace h := h (by rw [c]; rfl)
                              refine z_tsIn (off := 241) O 249 dX15_count_8 (by rw [c]; decide) (by rw [c]; decide) (by rw [c]; rfl) (by decide) ?_
                              refine z_aload_n O dX15_count_249 rfl 1 rfl ?_
                              obtain ⟨hk, h⟩ := h
                              refine z_geti O zf_X15_433_14 dX15_count_250 hk ?_
                              exact z_iret O dX15_count_253 h
set_option maxRecDepth 100000 in
set_option maxHeartbeats 4000000 in
theorem b_X15_count_137 {G : zG} {X : zX} (O : zOK G X cX15_count 4 RX15 (some .int) "count") (hR : X.R = rm_X15_count) {M : zM} {n k : Nat} {a0 : Nat} {x2 : Int32} {x3 : Int32} (h : M.1 a0 = 15 ∧ ((M.2.2.1 a0 7) ≤ x3 → zW G X 4 M n k 168 [(0, .ref a0), (2, .int x2), (3, .int 0)] []) ∧ (¬ (M.2.2.1 a0 7) ≤ x3 → M.1 a0 = 15 ∧ ∃ b1 : Nat, M.2.2.2 a0 8 = some b1 ∧ M.1 b1 = 110 ∧ vp_in x3 (M.2.1 b1) ∧ ∃ b2 : Nat, M.2.2.2 b1 x3.toNatClampNeg = some b2 ∧ M.1 b2 = 13 ∧ ∃ b3 : Nat, M.2.2.2 b2 2 = some b3 ∧ M.1 b3 = 14 ∧ ∀ y4 : Int32, y4 = (x2 + (M.2.2.1 b3 5)) → ∀ y5 : Int32, y5 = x3 + 1 → zW G X 4 M n k 137 [(0, .ref a0), (2, .int y4), (3, .int y5)] [])) : zW G X 4 M n k 137 [(0, .ref a0), (2, .int x2), (3, .int x3)] [] := by
  refine z_iload_n O dX15_count_137 rfl 2 rfl ?_
  refine z_aload_n O dX15_count_138 rfl 0 rfl ?_
  obtain ⟨hk, h⟩ := h
  refine z_geti O zf_X15_139_14 dX15_count_139 hk ?_
  refine z_icmp_ge O 166 dX15_count_142 (by decide) (fun c => ?_) (fun c => ?_)
  · replace h := h.1 c
    refine z_iconst (v := 0) O dX15_count_166 rfl ?_
    refine z_istore_n (lv' := [(3, .int 0), (0, .ref a0), (2, .int x2)]) O dX15_count_167 rfl (by decide) rfl ?_
    exact z_to [1, 2, 0] rfl h
  · replace h := h.2 c
    refine z_iload_n O dX15_count_145 rfl 1 rfl ?_
    refine z_aload_n O dX15_count_146 rfl 0 rfl ?_
    obtain ⟨hk, b1, hr, h⟩ := h
    refine z_getr O zf_X15_21_14 dX15_count_147 hk hr ?_
    refine z_iload_n O dX15_count_150 rfl 2 rfl ?_
    obtain ⟨hk, hi, b2, hr, h⟩ := h
    refine z_ald (t := 8) O rfl dX15_count_151 hk hi hr ?_
    obtain ⟨hk, b3, hr, h⟩ := h
    refine z_getr O zf_X15_155_12 dX15_count_152 hk hr ?_
    obtain ⟨hk, h⟩ := h
    refine z_geti O zf_X15_96_13 dX15_count_155 hk ?_
    refine z_iadd O dX15_count_158 ?_
    refine z_topi (fun y4 ey4 => ?_)
    replace h := h y4 ey4
    refine z_istore_n (lv' := [(2, .int y4), (0, .ref a0), (3, .int x3)]) O dX15_count_159 rfl (by decide) rfl ?_
    obtain ⟨y5, ey5⟩ : ∃ y : Int32, y = x3 + 1 := ⟨_, rfl⟩
    replace h := h y5 ey5
    refine z_iinc (v := y5) (lv' := [(3, .int y5), (2, .int y4), (0, .ref a0)]) O dX15_count_160 (q := 2) rfl (by rw [ey5]; rfl) (by decide) rfl ?_
    refine z_goto O 137 dX15_count_163 (by decide) ?_
    exact z_to [2, 1, 0] rfl h
set_option maxRecDepth 100000 in
set_option maxHeartbeats 4000000 in
theorem b_X15_count_168 {G : zG} {X : zX} (O : zOK G X cX15_count 4 RX15 (some .int) "count") (hR : X.R = rm_X15_count) {M : zM} {n k : Nat} {a0 : Nat} {x2 : Int32} {x3 : Int32} (h : M.1 a0 = 15 ∧ ((M.2.2.1 a0 9) ≤ x3 → zW G X 4 M n k 216 [(0, .ref a0), (2, .int x2), (3, .int 0)] []) ∧ (¬ (M.2.2.1 a0 9) ≤ x3 → M.1 a0 = 15 ∧ ∃ b1 : Nat, M.2.2.2 a0 10 = some b1 ∧ M.1 b1 = 111 ∧ vp_in x3 (M.2.1 b1) ∧ ∃ b2 : Nat, M.2.2.2 b1 x3.toNatClampNeg = some b2 ∧ M.1 b2 = 12 ∧ ∃ b3 : Nat, M.2.2.2 b2 4 = some b3 ∧ M.1 b3 = 109 ∧ vp_in (0 : Int32) (M.2.1 b3) ∧ ∃ b4 : Nat, M.2.2.2 b3 (0 : Int32).toNatClampNeg = some b4 ∧ M.1 b4 = 14 ∧ M.1 a0 = 15 ∧ ∃ b5 : Nat, M.2.2.2 a0 10 = some b5 ∧ M.1 b5 = 111 ∧ vp_in x3 (M.2.1 b5) ∧ ∃ b6 : Nat, M.2.2.2 b5 x3.toNatClampNeg = some b6 ∧ M.1 b6 = 12 ∧ ∃ b7 : Nat, M.2.2.2 b6 4 = some b7 ∧ M.1 b7 = 109 ∧ vp_in (1 : Int32) (M.2.1 b7) ∧ ∃ b8 : Nat, M.2.2.2 b7 (1 : Int32).toNatClampNeg = some b8 ∧ M.1 b8 = 14 ∧ ∀ y9 : Int32, y9 = (x2 + ((M.2.2.1 b4 5) + (M.2.2.1 b8 5))) → ∀ y10 : Int32, y10 = x3 + 1 → zW G X 4 M n k 168 [(0, .ref a0), (2, .int y9), (3, .int y10)] [])) : zW G X 4 M n k 168 [(0, .ref a0), (2, .int x2), (3, .int x3)] [] := by
  refine z_iload_n O dX15_count_168 rfl 2 rfl ?_
  refine z_aload_n O dX15_count_169 rfl 0 rfl ?_
  obtain ⟨hk, h⟩ := h
  refine z_geti O zf_X15_142_14 dX15_count_170 hk ?_
  refine z_icmp_ge O 214 dX15_count_173 (by decide) (fun c => ?_) (fun c => ?_)
  · replace h := h.1 c
    refine z_iconst (v := 0) O dX15_count_214 rfl ?_
    refine z_istore_n (lv' := [(3, .int 0), (0, .ref a0), (2, .int x2)]) O dX15_count_215 rfl (by decide) rfl ?_
    exact z_to [1, 2, 0] rfl h
  · replace h := h.2 c
    refine z_iload_n O dX15_count_176 rfl 1 rfl ?_
    refine z_aload_n O dX15_count_177 rfl 0 rfl ?_
    obtain ⟨hk, b1, hr, h⟩ := h
    refine z_getr O zf_X15_27_14 dX15_count_178 hk hr ?_
    refine z_iload_n O dX15_count_181 rfl 2 rfl ?_
    obtain ⟨hk, hi, b2, hr, h⟩ := h
    refine z_ald (t := 9) O rfl dX15_count_182 hk hi hr ?_
    obtain ⟨hk, b3, hr, h⟩ := h
    refine z_getr O zf_X15_280_11 dX15_count_183 hk hr ?_
    refine z_iconst (v := 0) O dX15_count_186 rfl ?_
    obtain ⟨hk, hi, b4, hr, h⟩ := h
    refine z_ald (t := 7) O rfl dX15_count_187 hk hi hr ?_
    obtain ⟨hk, h⟩ := h
    refine z_geti O zf_X15_96_13 dX15_count_188 hk ?_
    refine z_aload_n O dX15_count_191 rfl 0 rfl ?_
    obtain ⟨hk, b5, hr, h⟩ := h
    refine z_getr O zf_X15_27_14 dX15_count_192 hk hr ?_
    refine z_iload_n O dX15_count_195 rfl 2 rfl ?_
    obtain ⟨hk, hi, b6, hr, h⟩ := h
    refine z_ald (t := 9) O rfl dX15_count_196 hk hi hr ?_
    obtain ⟨hk, b7, hr, h⟩ := h
    refine z_getr O zf_X15_280_11 dX15_count_197 hk hr ?_
    refine z_iconst (v := 1) O dX15_count_200 rfl ?_
    obtain ⟨hk, hi, b8, hr, h⟩ := h
    refine z_ald (t := 7) O rfl dX15_count_201 hk hi hr ?_
    obtain ⟨hk, h⟩ := h
    refine z_geti O zf_X15_96_13 dX15_count_202 hk ?_
    refine z_iadd O dX15_count_205 ?_
    refine z_iadd O dX15_count_206 ?_
    refine z_topi (fun y9 ey9 => ?_)
    replace h := h y9 ey9
    refine z_istore_n (lv' := [(2, .int y9), (0, .ref a0), (3, .int x3)]) O dX15_count_207 rfl (by decide) rfl ?_
    obtain ⟨y10, ey10⟩ : ∃ y : Int32, y = x3 + 1 := ⟨_, rfl⟩
    replace h := h y10 ey10
    refine z_iinc (v := y10) (lv' := [(3, .int y10), (2, .int y9), (0, .ref a0)]) O dX15_count_208 (q := 2) rfl (by rw [ey10]; rfl) (by decide) rfl ?_
    refine z_goto O 168 dX15_count_211 (by decide) ?_
    exact z_to [2, 1, 0] rfl h
set_option maxRecDepth 100000 in
set_option maxHeartbeats 4000000 in
theorem b_X15_count_216 {G : zG} {X : zX} (O : zOK G X cX15_count 4 RX15 (some .int) "count") (hR : X.R = rm_X15_count) {M : zM} {n k : Nat} {a0 : Nat} {x2 : Int32} {x3 : Int32} (h : M.1 a0 = 15 ∧ ((M.2.2.1 a0 4) ≤ x3 → X.q M (some (.int x2))) ∧ (¬ (M.2.2.1 a0 4) ≤ x3 → M.1 a0 = 15 ∧ ∃ b1 : Nat, M.2.2.2 a0 6 = some b1 ∧ M.1 b1 = 109 ∧ vp_in x3 (M.2.1 b1) ∧ ∃ b2 : Nat, M.2.2.2 b1 x3.toNatClampNeg = some b2 ∧ M.1 b2 = 14 ∧ ∀ y3 : Int32, y3 = (x2 + (M.2.2.1 b2 5)) → ∀ y4 : Int32, y4 = x3 + 1 → zW G X 4 M n k 216 [(0, .ref a0), (2, .int y3), (3, .int y4)] [])) : zW G X 4 M n k 216 [(0, .ref a0), (2, .int x2), (3, .int x3)] [] := by
  refine z_iload_n O dX15_count_216 rfl 2 rfl ?_
  refine z_aload_n O dX15_count_217 rfl 0 rfl ?_
  obtain ⟨hk, h⟩ := h
  refine z_geti O zf_X15_132_14 dX15_count_218 hk ?_
  refine z_icmp_ge O 242 dX15_count_221 (by decide) (fun c => ?_) (fun c => ?_)
  · replace h := h.1 c
    refine z_iload_n O dX15_count_242 rfl 1 rfl ?_
    exact z_iret O dX15_count_243 h
  · replace h := h.2 c
    refine z_iload_n O dX15_count_224 rfl 1 rfl ?_
    refine z_aload_n O dX15_count_225 rfl 0 rfl ?_
    obtain ⟨hk, b1, hr, h⟩ := h
    refine z_getr O zf_X15_15_14 dX15_count_226 hk hr ?_
    refine z_iload_n O dX15_count_229 rfl 2 rfl ?_
    obtain ⟨hk, hi, b2, hr, h⟩ := h
    refine z_ald (t := 7) O rfl dX15_count_230 hk hi hr ?_
    obtain ⟨hk, h⟩ := h
    refine z_geti O zf_X15_96_13 dX15_count_231 hk ?_
    refine z_iadd O dX15_count_234 ?_
    refine z_topi (fun y3 ey3 => ?_)
    replace h := h y3 ey3
    refine z_istore_n (lv' := [(2, .int y3), (0, .ref a0), (3, .int x3)]) O dX15_count_235 rfl (by decide) rfl ?_
    obtain ⟨y4, ey4⟩ : ∃ y : Int32, y = x3 + 1 := ⟨_, rfl⟩
    replace h := h y4 ey4
    refine z_iinc (v := y4) (lv' := [(3, .int y4), (2, .int y3), (0, .ref a0)]) O dX15_count_236 (q := 2) rfl (by rw [ey4]; rfl) (by decide) rfl ?_
    refine z_goto O 216 dX15_count_239 (by decide) ?_
    exact z_to [2, 1, 0] rfl h
end
section
/-! ===== the frame: a contract over a part of the memory ===== -/
/-- two memories side by side -/
def zU (M1 M2 : zM) : zM := (fun x => if M1.1 x = 0 then M2.1 x else M1.1 x, fun x => if M1.1 x = 0 then M2.2.1 x else M1.2.1 x, fun x j => if M1.1 x = 0 then M2.2.2.1 x j else M1.2.2.1 x j, fun x j => if M1.1 x = 0 then M2.2.2.2 x j else M1.2.2.2 x j)
def zDis (M1 M2 : zM) : Prop := ∀ x, M1.1 x = 0 ∨ M2.1 x = 0
theorem zU_l {cA : Nat → ClassId} {M1 M2 : zM} {x : Nat} (h : ¬ M1.1 x = 0) : (zU M1 M2).1 x = M1.1 x ∧ zE' cA (zU M1 M2) x = zE' cA M1 x := by simp only [zU, zE', h, if_false, and_self]
theorem zU_r {cA : Nat → ClassId} {M1 M2 : zM} {x : Nat} (h : M1.1 x = 0) : (zU M1 M2).1 x = M2.1 x ∧ zE' cA (zU M1 M2) x = zE' cA M2 x := by simp only [zU, zE', h, if_true, and_self]
/-- a part of a list world, by a test of the address -/
theorem zfil {ws : va_W} {A : Nat → Prop} (f : Nat → Bool) (hD : va_D A ws) : va_D A (ws.filter (fun q => f q.1)) := by
  have key : ∀ (l : va_W) (i : Nat) (q : Nat × va_E), (l.filter (fun q => f q.1))[i]? = some q → ∃ j, l[j]? = some q := fun l i q h => List.getElem?_of_mem (List.mem_filter.mp (List.mem_of_getElem? h)).1
  refine ⟨?_, fun i q h => ?_⟩
  · have : ∀ l : va_W, (∀ (i j : Nat) (p q : Nat × va_E), l[i]? = some p → l[j]? = some q → p.1 = q.1 → i = j) → ∀ (i j : Nat) (p q : Nat × va_E), (l.filter (fun q => f q.1))[i]? = some p → (l.filter (fun q => f q.1))[j]? = some q → p.1 = q.1 → i = j := by
      intro l
      induction l with
      | nil => intro _ i j p q h; simp at h
      | cons a l ih =>
        intro hl i j p q hi hj hpq
        have hl2 : ∀ (i j : Nat) (p q : Nat × va_E), l[i]? = some p → l[j]? = some q → p.1 = q.1 → i = j := fun i j p q h1 h2 h3 => by
          have := hl (i + 1) (j + 1) p q (by simpa using h1) (by simpa using h2) h3
          omega
        have hno : ∀ (j : Nat) (q : Nat × va_E), (l.filter (fun q => f q.1))[j]? = some q → a.1 ≠ q.1 := fun j q h e => by
          obtain ⟨j', hj'⟩ := key l j q h
          have := hl 0 (j' + 1) a q (by simp) (by simpa using hj') e
          omega
        by_cases ha : f a.1 = true
        · rw [List.filter_cons_of_pos (by simpa using ha)] at hi hj
          cases i with
          | zero =>
            cases j with
            | zero => rfl
            | succ j =>
              simp at hi
              subst hi
              exact absurd hpq (hno j q (by simpa using hj))
          | succ i =>
            cases j with
            | zero =>
              simp at hj
              subst hj
              exact absurd hpq.symm (hno i p (by simpa using hi))
            | succ j =>
              rw [ih hl2 i j p q (by simpa using hi) (by simpa using hj) hpq]
        · rw [List.filter_cons_of_neg (by simpa using ha)] at hi hj
          exact ih hl2 i j p q hi hj hpq
    exact this ws hD.1
  · obtain ⟨j, hj⟩ := key ws i q h
    exact hD.2 j q hj
section ZFRAME
variable {G : zG} {y : MethodName} {cy : ByteArray} {maxL : Nat} {ry : Option FieldType} {rm : Room} {M1 M2 : zM} {av : List Value} {post : zM → Option Value → Prop}
theorem z_frame (hdis : zDis M1 M2) (h : zC G y cy maxL ry rm M1 av post) : zC G y cy maxL ry rm (zU M1 M2) av (fun M' v => ∃ M1' : zM, post M1' v ∧ zDis M1' M2 ∧ M' = zU M1' M2) := by
  intro sz
  have h1 := h sz
  intro p e ha hc hk s m args below hf happ hP hK
  obtain ⟨hav, hsz, hV, ws, hr, hPw, hDw⟩ := hP
  have hget : ∀ (f : Nat → Bool) (i : Nat) (q : Nat × va_E), (ws.filter (fun q => f q.1))[i]? = some q → (∃ j, ws[j]? = some q) ∧ f q.1 = true := fun f i q h => by
    have := List.mem_filter.mp (List.mem_of_getElem? h)
    exact ⟨List.getElem?_of_mem this.1, this.2⟩
  have hput : ∀ (f : Nat → Bool) (j : Nat) (q : Nat × va_E), ws[j]? = some q → f q.1 = true → ∃ i, (ws.filter (fun q => f q.1))[i]? = some q := fun f j q h1 h2 => List.getElem?_of_mem (List.mem_filter.mpr ⟨List.mem_of_getElem? h1, h2⟩)
  have hrep1 : zRep G.2.2 M1 (ws.filter (fun q => decide (¬ M1.1 q.1 = 0))) := by
    refine ⟨fun a hx => ?_, fun j q hj => ?_⟩
    · obtain ⟨g1, g2⟩ := zU_l (cA := G.2.2) (M2 := M2) hx
      obtain ⟨j, hj⟩ := hr.1 a (by rw [g1]; exact hx)
      rw [g2] at hj
      exact hput (fun a => decide (¬ M1.1 a = 0)) j _ hj (by simpa using hx)
    · obtain ⟨⟨j', hj'⟩, hq⟩ := hget (fun a => decide (¬ M1.1 a = 0)) j q hj
      have hq : ¬ M1.1 q.1 = 0 := by simpa using hq
      obtain ⟨g1, g2⟩ := zU_l (cA := G.2.2) (M2 := M2) hq
      exact ⟨hq, by rw [(hr.2 j' q hj').2, g2]⟩
  have hw2 : ∀ (i : Nat) (q : Nat × va_E), (ws.filter (fun q => decide (M1.1 q.1 = 0)))[i]? = some q → (∃ j, ws[j]? = some q) ∧ M1.1 q.1 = 0 ∧ M2.1 q.1 ≠ 0 ∧ q.2 = zE' G.2.2 M2 q.1 ∧ q.1 < sz := fun i q hi => by
    obtain ⟨⟨j', hj'⟩, hq⟩ := hget (fun a => decide (M1.1 a = 0)) i q hi
    have hq : M1.1 q.1 = 0 := by simpa using hq
    obtain ⟨g1, g2⟩ := zU_r (cA := G.2.2) (M2 := M2) hq
    obtain ⟨g3, g4⟩ := hr.2 j' q hj'
    exact ⟨⟨j', hj'⟩, hq, by rw [← g1]; exact g3, by rw [g4, g2], by rw [← hsz]; exact (hPw j' q hj').lt⟩
  have hsub : ∀ q, zA M1 sz q → zA (zU M1 M2) sz q := fun q hq => by
    rcases hq with hq | hq
    · exact Or.inl (by rw [(zU_l (cA := G.2.2) (M2 := M2) hq).1]; exact hq)
    · exact Or.inr hq
  obtain ⟨j, o, g1, g2, g3, ⟨⟨⟨M', v, ws', q1, q2, q3, q4, q5, q6⟩, q7⟩, L, g5, g6⟩⟩ := h1 p e ha hc hk s m args below hf happ ⟨hav, hsz, hV, ws.filter (fun q => decide (¬ M1.1 q.1 = 0)), hrep1, fun i q hi => by
    obtain ⟨⟨j', hj'⟩, -⟩ := hget (fun a => decide (¬ M1.1 a = 0)) i q hi
    exact hPw j' q hj', zfil (fun a => decide (¬ M1.1 a = 0)) hDw⟩ hK
  have hkeep : ∀ (i : Nat) (q : Nat × va_E), (ws.filter (fun q => decide (M1.1 q.1 = 0)))[i]? = some q → ¬ zA M1 sz q.1 := fun i q hi hz => by
    obtain ⟨-, a1, a2, -, a4⟩ := hw2 i q hi
    rcases hz with hz | hz
    · exact hz a1
    · omega
  have hd' : zDis M' M2 := fun x => by
    rcases Nat.eq_zero_or_pos (M'.1 x) with h0 | h0
    · exact Or.inl h0
    · right
      obtain ⟨i, hi⟩ := q3.1 x (by omega)
      rcases q6.2 i _ hi with hz | hz
      · exact (hdis x).resolve_left hz
      · rcases Nat.eq_zero_or_pos (M2.1 x) with h2 | h2
        · exact h2
        · have hne : (zU M1 M2).1 x ≠ 0 := by
            by_cases hm : M1.1 x = 0
            · rw [(zU_r (cA := G.2.2) (M2 := M2) hm).1]; omega
            · rw [(zU_l (cA := G.2.2) (M2 := M2) hm).1]; exact hm
          obtain ⟨i2, hi2⟩ := hr.1 x hne
          have := (hPw i2 _ hi2).lt
          simp only at this hz
          omega
  refine ⟨j, o, g1, g2, g3, ⟨⟨zU M' M2, v, ws' ++ ws.filter (fun q => decide (M1.1 q.1 = 0)), q1, ⟨M', q2, hd', rfl⟩, ?_, ?_, q5, ?_⟩, q7.1, fun q z1 z2 => q7.2 q z1 (fun z => z2 (hsub q z))⟩, L, g5, fun q hq => hsub _ (g6 q hq)⟩
  · refine ⟨fun a hx => ?_, fun i q hi => ?_⟩
    · by_cases hm : M'.1 a = 0
      · obtain ⟨b1, b2⟩ := zU_r (cA := G.2.2) (M2 := M2) hm
        have hm2 : M2.1 a ≠ 0 := by rw [← b1]; exact hx
        have hm1 : M1.1 a = 0 := (hdis a).resolve_right hm2
        obtain ⟨c1, c2⟩ := zU_r (cA := G.2.2) (M2 := M2) hm1
        obtain ⟨i, hi⟩ := hr.1 a (by rw [c1]; exact hm2)
        obtain ⟨i2, hi2⟩ := hput (fun a => decide (M1.1 a = 0)) i _ hi (by simpa using hm1)
        exact ⟨ws'.length + i2, by rw [List.getElem?_append_right (by omega), show ws'.length + i2 - ws'.length = i2 by omega, hi2, c2, b2]⟩
      · obtain ⟨b1, b2⟩ := zU_l (cA := G.2.2) (M2 := M2) hm
        obtain ⟨i, hi⟩ := q3.1 a hm
        exact ⟨i, by rw [List.getElem?_append_left (List.getElem?_eq_some_iff.mp hi).1, hi, b2]⟩
    · by_cases hl : i < ws'.length
      · rw [List.getElem?_append_left hl] at hi
        obtain ⟨b3, b4⟩ := q3.2 i q hi
        obtain ⟨b1, b2⟩ := zU_l (cA := G.2.2) (M2 := M2) b3
        exact ⟨by rw [b1]; exact b3, by rw [b2]; exact b4⟩
      · rw [List.getElem?_append_right (by omega)] at hi
        obtain ⟨-, a1, a2, a3, a4⟩ := hw2 _ q hi
        have hm : M'.1 q.1 = 0 := (hd' q.1).resolve_right a2
        obtain ⟨b1, b2⟩ := zU_r (cA := G.2.2) (M2 := M2) hm
        exact ⟨by rw [b1]; exact a2, by rw [b2]; exact a3⟩
  · refine va_P.app q4 (fun i q hi => ?_)
    obtain ⟨⟨j', hj'⟩, a1, a2, a3, a4⟩ := hw2 i q hi
    exact (hPw j' q hj').kept (q7.2 q.1 (by rw [hsz]; exact a4) (hkeep i q hi))
  · refine va_D.app (q6.weaken (fun _ q _ hz => hsub q.1 hz)) ((zfil (fun a => decide (M1.1 a = 0)) hDw).weaken (fun i q hi _ => ?_)) (fun i i2 x z hx hz e => ?_)
    · obtain ⟨-, a1, a2, -⟩ := hw2 i q hi
      exact Or.inl (by rw [(zU_r (cA := G.2.2) (M2 := M2) a1).1]; exact a2)
    · exact hkeep i2 z hz (by rw [← e]; exact q6.2 i x hx)
end ZFRAME
end
section
/-! ===== pure rows about memories ===== -/
/-- from M to M' no old cell changes its kind or length, nor, outside E, what it holds -/
def zle (E : Nat → Prop) (M M' : zM) : Prop := (∀ a, M.1 a ≠ 0 → M'.1 a = M.1 a ∧ M'.2.1 a = M.2.1 a) ∧ ∀ a, M.1 a ≠ 0 → ¬ E a → M'.2.2.1 a = M.2.2.1 a ∧ M'.2.2.2 a = M.2.2.2 a
theorem zle.refl {E : Nat → Prop} (M : zM) : zle E M M := ⟨fun _ _ => ⟨rfl, rfl⟩, fun _ _ _ => ⟨rfl, rfl⟩⟩
theorem zle.trans {E : Nat → Prop} {M1 M2 M3 : zM} (h : zle E M1 M2) (g : zle E M2 M3) : zle E M1 M3 := by
  refine ⟨fun a ha => ?_, fun a ha he => ?_⟩
  · obtain ⟨a1, a2⟩ := h.1 a ha
    obtain ⟨b1, b2⟩ := g.1 a (by rw [a1]; exact ha)
    exact ⟨b1.trans a1, b2.trans a2⟩
  · obtain ⟨a1, -⟩ := h.1 a ha
    obtain ⟨c1, c2⟩ := h.2 a ha he
    obtain ⟨d1, d2⟩ := g.2 a (by rw [a1]; exact ha) he
    exact ⟨d1.trans c1, d2.trans c2⟩
theorem zle.mono {E F : Nat → Prop} {M M' : zM} (h : zle E M M') (hEF : ∀ a, M.1 a ≠ 0 → E a → F a) : zle F M M' := ⟨h.1, fun a ha hf => h.2 a ha (fun he => hf (hEF a ha he))⟩
theorem zle.mkn {E : Nat → Prop} {M M' : zM} {q k n : Nat} (e : M' = zn M q k n) (hq : M.1 q = 0) : zle E M M' := by
  subst e
  refine ⟨fun a ha => ?_, fun a ha _ => ?_⟩
  · have : a ≠ q := fun z => ha (by rw [z]; exact hq)
    simp [zn, this]
  · have : a ≠ q := fun z => ha (by rw [z]; exact hq)
    simp [zn, this]
theorem zle.mkr {E : Nat → Prop} {M M' : zM} {x j : Nat} {v : Option Nat} (e : M' = zr M x j v) (hE : E x) : zle E M M' := by
  subst e
  refine ⟨fun a _ => ⟨rfl, rfl⟩, fun a ha he => ⟨rfl, ?_⟩⟩
  funext i
  have : a ≠ x := fun z => he (by rw [z]; exact hE)
  simp [zr, this]
theorem zle.mki {E : Nat → Prop} {M M' : zM} {x j : Nat} {v : Int32} (e : M' = zi M x j v) (hE : E x) : zle E M M' := by
  subst e
  refine ⟨fun a _ => ⟨rfl, rfl⟩, fun a ha he => ⟨?_, rfl⟩⟩
  funext i
  have : a ≠ x := fun z => he (by rw [z]; exact hE)
  simp [zi, this]
theorem zle.mknn {E : Nat → Prop} {M M' : zM} {q N K : Nat} (e : M' = znn M q N K) (hq : ∀ j, j ≤ N → M.1 (q + j) = 0) : zle E M M' := by
  subst e
  have key : ∀ a, M.1 a ≠ 0 → ¬ (q ≤ a ∧ a ≤ q + N) := fun a ha hz => ha (by
    have := hq (a - q) (by omega)
    rwa [show q + (a - q) = a by omega] at this)
  refine ⟨fun a ha => ?_, fun a ha _ => ?_⟩
  · have h1 := key a ha
    have h2 : ¬ a = q := by omega
    have h3 : ¬ (q < a ∧ a ≤ q + N) := by omega
    simp [znn, h2, h3]
  · have h1 := key a ha
    have h2 : ¬ a = q := by omega
    have h3 : ¬ (q < a ∧ a ≤ q + N) := by omega
    simp [znn, h1, h2, h3]
/-- a cell of a kind and a length -/
def zkd (M : zM) (a k n : Nat) : Prop := M.1 a = k ∧ M.2.1 a = n ∧ k ≠ 0
theorem zkd.le {E : Nat → Prop} {M M' : zM} {a k n : Nat} (h : zkd M a k n) (l : zle E M M') : zkd M' a k n := by
  obtain ⟨h1, h2, h3⟩ := h
  obtain ⟨g1, g2⟩ := l.1 a (by rw [h1]; exact h3)
  exact ⟨g1.trans h1, g2.trans h2, h3⟩
theorem zkd.new {M M' : zM} {q k n : Nat} (e : M' = zn M q k n) (hk : k ≠ 0) : zkd M' q k n := by
  subst e
  exact ⟨by simp [zn], by simp [zn], hk⟩
/-- an object of a kind, its ints and its references -/
def zob (M : zM) (a k : Nat) (f : Nat → Int32) (r : Nat → Option Nat) : Prop := M.1 a = k ∧ k ≠ 0 ∧ M.2.2.1 a = f ∧ M.2.2.2 a = r
theorem zob.le {E : Nat → Prop} {M M' : zM} {a k : Nat} {f : Nat → Int32} {r : Nat → Option Nat} (h : zob M a k f r) (l : zle E M M') (he : ¬ E a) : zob M' a k f r := by
  obtain ⟨h1, h2, h3, h4⟩ := h
  have ha : M.1 a ≠ 0 := by rw [h1]; exact h2
  obtain ⟨g1, -⟩ := l.1 a ha
  obtain ⟨g3, g4⟩ := l.2 a ha he
  exact ⟨g1.trans h1, h2, g3.trans h3, g4.trans h4⟩
theorem zob.new {M M' : zM} {q k n : Nat} (e : M' = zn M q k n) (hk : k ≠ 0) : zob M' q k (fun _ => 0) (fun _ => none) := by
  subst e
  exact ⟨by simp [zn], hk, by funext j; simp [zn], by funext j; simp [zn]⟩
theorem zob.mkr {M M' : zM} {a k j : Nat} {v : Option Nat} {f : Nat → Int32} {r : Nat → Option Nat} (h : zob M a k f r) (e : M' = zr M a j v) : zob M' a k f (va_up r j v) := by
  subst e
  obtain ⟨h1, h2, h3, h4⟩ := h
  exact ⟨h1, h2, h3, by rw [zUpd_r, h4]⟩
theorem zob.mki {M M' : zM} {a k j : Nat} {v : Int32} {f : Nat → Int32} {r : Nat → Option Nat} (h : zob M a k f r) (e : M' = zi M a j v) : zob M' a k (upd f j v) r := by
  subst e
  obtain ⟨h1, h2, h3, h4⟩ := h
  exact ⟨h1, h2, by rw [zUpd_i, h3], h4⟩
theorem zob.ne {M : zM} {a b k l : Nat} {f : Nat → Int32} {r : Nat → Option Nat} (h : zob M a k f r) (g : M.1 b = l) (hkl : k ≠ l) : a ≠ b := fun e => hkl (by rw [← h.1, e, g])
theorem zob.ne0 {M : zM} {a k q : Nat} {f : Nat → Int32} {r : Nat → Option Nat} (h : zob M a k f r) (g : M.1 q = 0) : a ≠ q := fun e => h.2.1 (by rw [← h.1, e, g])
end
section
theorem zle.fresh {E : Nat → Prop} {M0 M : zM} {q : Nat} (l : zle E M0 M) (h : M.1 q = 0) : M0.1 q = 0 := by
  rcases Nat.eq_zero_or_pos (M0.1 q) with g | g
  · exact g
  · have := (l.1 q (by omega)).1
    omega
theorem zle.only {M0 M : zM} {a0 : Nat} (l : zle (fun z => z = a0 ∨ M0.1 z = 0) M0 M) : zle (fun z => z = a0) M0 M := l.mono (fun z hz h => h.resolve_right hz)
/-- what our constructors do: nothing old but the object itself changes, which keeps its kind -/
abbrev zpost0 (a : Nat) (M : zM) : zM → Option Value → Prop := fun M' v => zle (fun z => z = a) M M' ∧ v = none ∧ True
abbrev zpost (a : Nat) (k : Nat) (P : zM → (Nat → Option Nat) → Prop) (M : zM) : zM → Option Value → Prop := fun M' v => zle (fun z => z = a) M M' ∧ v = none ∧ ∀ (f : Nat → Int32) (r : Nat → Option Nat), zob M a k f r → ∃ r' : Nat → Option Nat, zob M' a k f r' ∧ P M' r'
set_option maxRecDepth 100000 in
set_option maxHeartbeats 4000000 in
theorem s_X9_init {G : zG} {M0 : zM} {a0 : Nat} (h0 : M0.1 a0 = 9) : zC G yX9_init cX9_init 1 none rm_X9_init M0 [.ref a0] (zpost a0 9 (fun _ _ => True) M0) := by
  refine z_intro (by decide +kernel) (Nat.le_of_ble_eq_true rfl) (fun X O hR hq => ?_)
  refine b_X9_init_0 (n := 0) (k := 0) O hR ?_
  have ob : zob M0 a0 9 (M0.2.2.1 a0) (M0.2.2.2 a0) := ⟨h0, by decide, rfl, rfl⟩
  have le : zle (fun z => z = a0 ∨ M0.1 z = 0) M0 M0 := zle.refl _
  rw [hq]
  refine ⟨le.only, rfl, fun f r h => ?_⟩
  obtain ⟨-, -, rfl, -⟩ := h
  exact ⟨_, ob, trivial⟩
set_option maxRecDepth 100000 in
set_option maxHeartbeats 4000000 in
theorem s_X10_init {G : zG} {M0 : zM} {a0 : Nat} (h0 : M0.1 a0 = 10) : zC G yX10_init cX10_init 1 none rm_X10_init M0 [.ref a0] (zpost a0 10 (fun _ _ => True) M0) := by
  refine z_intro (by decide +kernel) (Nat.le_of_ble_eq_true rfl) (fun X O hR hq => ?_)
  refine b_X10_init_0 (n := 0) (k := 0) O hR ?_
  have ob : zob M0 a0 10 (M0.2.2.1 a0) (M0.2.2.2 a0) := ⟨h0, by decide, rfl, rfl⟩
  have le : zle (fun z => z = a0 ∨ M0.1 z = 0) M0 M0 := zle.refl _
  refine ⟨by rw [hR]; decide, by rw [hR]; decide, fun q1 fq1 M2 eM2 => ?_⟩
  have gq1 := le.fresh fq1
  have le := le.trans (zle.mkn eM2 fq1)
  have na_q1 := ob.ne0 fq1
  have ob := ob.le (zle.mkn (E := fun _ => False) eM2 fq1) (fun h => h)
  have tq1 := zob.new eM2 (by decide)
  refine ⟨ob.1, fun M3 eM3 => ?_⟩
  have le := le.trans (zle.mkr eM3 (Or.inl rfl))
  have ob := ob.mkr eM3
  rw [hq]
  refine ⟨le.only, rfl, fun f r h => ?_⟩
  obtain ⟨-, -, rfl, -⟩ := h
  exact ⟨_, ob, trivial⟩
set_option maxRecDepth 100000 in
set_option maxHeartbeats 4000000 in
theorem s_X4_init {G : zG} {M0 : zM} {a0 : Nat} (h0 : M0.1 a0 = 5) : zC G yX4_init cX4_init 1 none rm_X4_init M0 [.ref a0] (zpost a0 5 (fun M' r' => ∃ b c d : Nat, r' 0 = some b ∧ r' 1 = some c ∧ r' 2 = some d ∧ zkd M' b 100 64 ∧ zkd M' c 100 64 ∧ zkd M' d 100 64) M0) := by
  refine z_intro (by decide +kernel) (Nat.le_of_ble_eq_true rfl) (fun X O hR hq => ?_)
  refine b_X4_init_0 (n := 0) (k := 0) O hR ?_
  have ob : zob M0 a0 5 (M0.2.2.1 a0) (M0.2.2.2 a0) := ⟨h0, by decide, rfl, rfl⟩
  have le : zle (fun z => z = a0 ∨ M0.1 z = 0) M0 M0 := zle.refl _
  refine ⟨by rw [hR]; decide, by rw [hR]; decide, fun q1 fq1 M2 eM2 => ?_⟩
  have gq1 := le.fresh fq1
  have le := le.trans (zle.mkn eM2 fq1)
  have na_q1 := ob.ne0 fq1
  have ob := ob.le (zle.mkn (E := fun _ => False) eM2 fq1) (fun h => h)
  have kq1 := zkd.new eM2 (by decide)
  have tq1 := zob.new eM2 (by decide)
  refine ⟨ob.1, fun M3 eM3 => ?_⟩
  have le := le.trans (zle.mkr eM3 (Or.inl rfl))
  have kq1 := kq1.le (zle.mkr (E := fun z => z = a0) eM3 rfl)
  have ob := ob.mkr eM3
  refine ⟨by rw [hR]; decide, by rw [hR]; decide, fun q4 fq4 M5 eM5 => ?_⟩
  have gq4 := le.fresh fq4
  have le := le.trans (zle.mkn eM5 fq4)
  have na_q4 := ob.ne0 fq4
  have kq1 := kq1.le (zle.mkn (E := fun _ => False) eM5 fq4)
  have ob := ob.le (zle.mkn (E := fun _ => False) eM5 fq4) (fun h => h)
  have kq4 := zkd.new eM5 (by decide)
  have tq4 := zob.new eM5 (by decide)
  refine ⟨ob.1, fun M6 eM6 => ?_⟩
  have le := le.trans (zle.mkr eM6 (Or.inl rfl))
  have kq1 := kq1.le (zle.mkr (E := fun z => z = a0) eM6 rfl)
  have kq4 := kq4.le (zle.mkr (E := fun z => z = a0) eM6 rfl)
  have ob := ob.mkr eM6
  refine ⟨by rw [hR]; decide, by rw [hR]; decide, fun q7 fq7 M8 eM8 => ?_⟩
  have gq7 := le.fresh fq7
  have le := le.trans (zle.mkn eM8 fq7)
  have na_q7 := ob.ne0 fq7
  have kq1 := kq1.le (zle.mkn (E := fun _ => False) eM8 fq7)
  have kq4 := kq4.le (zle.mkn (E := fun _ => False) eM8 fq7)
  have ob := ob.le (zle.mkn (E := fun _ => False) eM8 fq7) (fun h => h)
  have kq7 := zkd.new eM8 (by decide)
  have tq7 := zob.new eM8 (by decide)
  refine ⟨ob.1, fun M9 eM9 => ?_⟩
  have le := le.trans (zle.mkr eM9 (Or.inl rfl))
  have kq1 := kq1.le (zle.mkr (E := fun z => z = a0) eM9 rfl)
  have kq4 := kq4.le (zle.mkr (E := fun z => z = a0) eM9 rfl)
  have kq7 := kq7.le (zle.mkr (E := fun z => z = a0) eM9 rfl)
  have ob := ob.mkr eM9
  rw [hq]
  refine ⟨le.only, rfl, fun f r h => ?_⟩
  obtain ⟨-, -, rfl, -⟩ := h
  exact ⟨_, ob, q1, q4, q7, by simp [va_up], by simp [va_up], by simp [va_up], kq1, kq4, kq7⟩
set_option maxRecDepth 100000 in
set_option maxHeartbeats 4000000 in
theorem s_X7_loop {G : zG} {X : zX} (O : zOK G X cX7_init 3 RX7 none "<init>") (hR : X.R = rm_X7_init) {M0 : zM} {a0 s0 : Nat} (hs0 : M0.1 s0 = 0) (hq : ∀ M, zle (fun z => z = a0 ∨ M0.1 z = 0) M0 M → X.q M none) : ∀ (m i : Nat) (M : zM), i + m = 8 → zle (fun z => z = a0 ∨ M0.1 z = 0) M0 M → M.1 a0 = 8 → M.2.2.2 a0 0 = some s0 → zkd M s0 106 8 → zW G X 3 M (1 + 2 * i) (8 + 28 * i) 20 [(0, .ref a0), (2, .int (nI i))] []
  | 0, i, M, hi, le, ka, kr, ks => by
    have hi8 : i = 8 := by omega
    subst hi8
    refine b_X7_init_20 O hR ⟨fun _ => hq M le, fun c => absurd ?_ c⟩
    decide
  | m + 1, i, M, hi, le, ka, kr, ks => by
    refine b_X7_init_20 O hR ⟨fun c => absurd c (nI_ge (a := i) (b := 8) (by omega) (by decide)), fun _ => ⟨ka, s0, kr, ?_, ?_, fun q2 fq2 M3 e3 => ⟨?_, ?_, ?_⟩⟩⟩
    · rw [hR]; show 1 + 2 * i + 1 ≤ 17; omega
    · rw [hR]; show 8 + 28 * i + 5 ≤ 232; omega
    · rw [hR]; show 1 + 2 * i + 1 + 1 ≤ 17; omega
    · rw [hR]; show 8 + 28 * i + 5 + 23 ≤ 232; omega
    · have g2 := le.fresh fq2
      have le1 := le.trans (zle.mkn e3 fq2)
      have t2 := zob.new e3 (by decide : (10 : Nat) ≠ 0)
      have na : a0 ≠ q2 := fun e => by rw [← e, ka] at fq2; cases fq2
      have ns : s0 ≠ q2 := fun e => by rw [← e, ks.1] at fq2; cases fq2
      have nas : a0 ≠ s0 := fun e => by have := ks.1; rw [← e, ka] at this; cases this
      have hz := zle.mkn (E := fun _ => False) e3 fq2
      have ka1 : M3.1 a0 = 8 := (hz.1 a0 (by rw [ka]; decide)).1.trans ka
      have kr1 : M3.2.2.2 a0 0 = some s0 := by rw [(hz.2 a0 (by rw [ka]; decide) (fun h => h)).2]; exact kr
      have ks1 := ks.le hz
      refine (s_X10_init t2.1).weak (fun M4 v hv => ?_)
      obtain ⟨hle, rfl, hsp⟩ := hv
      obtain ⟨r4, o4, -⟩ := hsp _ _ t2
      have le2 := le1.trans (hle.mono (F := fun z => z = a0 ∨ M0.1 z = 0) (fun z _ hz => Or.inr (by rw [hz]; exact g2)))
      have ka2 : M4.1 a0 = 8 := (hle.1 a0 (by rw [ka1]; decide)).1.trans ka1
      have kr2 : M4.2.2.2 a0 0 = some s0 := by rw [(hle.2 a0 (by rw [ka1]; decide) na).2]; exact kr1
      have ks2 := ks1.le hle
      refine ⟨rfl, ks2.1, o4.1, by rw [ks2.2.1]; exact vp_in_nI (by omega) (by decide), fun M5 e5 y6 ey => ?_⟩
      have le3 := le2.trans (zle.mkr e5 (Or.inr hs0))
      have hz5 := zle.mkr (E := fun z => z = s0) e5 rfl
      have ka3 : M5.1 a0 = 8 := (hz5.1 a0 (by rw [ka2]; decide)).1.trans ka2
      have kr3 : M5.2.2.2 a0 0 = some s0 := by rw [(hz5.2 a0 (by rw [ka2]; decide) nas).2]; exact kr2
      have ey2 : y6 = nI (i + 1) := by rw [ey]; exact (nI_succ i).symm
      subst ey2
      have key := s_X7_loop O hR hs0 hq m (i + 1) M5 (by omega) le3 ka3 kr3 (ks2.le hz5)
      rw [show 1 + 2 * i + 1 + 1 = 1 + 2 * (i + 1) by omega, show 8 + 28 * i + 5 + 23 = 8 + 28 * (i + 1) by omega]
      exact key
set_option maxRecDepth 100000 in
set_option maxHeartbeats 4000000 in
theorem s_X7_init {G : zG} {M0 : zM} {a0 a1 : Nat} (h0 : M0.1 a0 = 8) : zC G yX7_init cX7_init 3 none rm_X7_init M0 [.ref a0, .ref a1] (zpost0 a0 M0) := by
  refine z_intro (by decide +kernel) (Nat.le_of_ble_eq_true rfl) (fun X O hR hq => ?_)
  refine b_X7_init_0 (n := 0) (k := 0) O hR ⟨h0, fun M1 e1 => ⟨by rw [hR]; decide, by rw [hR]; decide, fun q2 fq2 M3 e3 => ?_⟩⟩
  have le : zle (fun z => z = a0 ∨ M0.1 z = 0) M0 M0 := zle.refl _
  have ob : zob M0 a0 8 (M0.2.2.1 a0) (M0.2.2.2 a0) := ⟨h0, by decide, rfl, rfl⟩
  have le := le.trans (zle.mkr e1 (Or.inl rfl))
  have ob := ob.mkr e1
  have g2 := le.fresh fq2
  have le := le.trans (zle.mkn e3 fq2)
  have ob := ob.le (zle.mkn (E := fun _ => False) e3 fq2) (fun h => h)
  have k2 := zkd.new e3 (by decide)
  refine ⟨ob.1, fun M4 e4 => ?_⟩
  have le := le.trans (zle.mkr e4 (Or.inl rfl))
  have ob := ob.mkr e4
  have k2 := k2.le (zle.mkr (E := fun z => z = a0) e4 rfl)
  refine s_X7_loop O hR g2 (fun M l => ?_) 8 0 M4 rfl le ob.1 (by rw [ob.2.2.2]; simp [va_up]) k2
  rw [hq]
  exact ⟨l.only, rfl, trivial⟩
set_option maxRecDepth 100000 in
set_option maxHeartbeats 4000000 in
theorem s_X5_init {G : zG} {M0 : zM} {a0 : Nat} {x1 x2 : Int32} {a3 : Nat} (h0 : M0.1 a0 = 6) : zC G yX5_init cX5_init 4 none rm_X5_init M0 [.ref a0, .int x1, .int x2, .ref a3] (zpost0 a0 M0) := by
  refine z_intro (by decide +kernel) (Nat.le_of_ble_eq_true rfl) (fun X O hR hq => ?_)
  refine b_X5_init_0 (n := 0) (k := 0) O hR ?_
  have ob : zob M0 a0 6 (M0.2.2.1 a0) (M0.2.2.2 a0) := ⟨h0, by decide, rfl, rfl⟩
  have le : zle (fun z => z = a0 ∨ M0.1 z = 0) M0 M0 := zle.refl _
  refine ⟨ob.1, fun M1 eM1 => ?_⟩
  have le := le.trans (zle.mki eM1 (Or.inl rfl))
  have ob := ob.mki eM1
  refine ⟨ob.1, fun M2 eM2 => ?_⟩
  have le := le.trans (zle.mki eM2 (Or.inl rfl))
  have ob := ob.mki eM2
  refine ⟨by rw [hR]; decide, by rw [hR]; decide, fun q3 fq3 M4 eM4 => ?_⟩
  have gq3 := le.fresh fq3
  have le := le.trans (zle.mkn eM4 fq3)
  have na_q3 := ob.ne0 fq3
  have ob := ob.le (zle.mkn (E := fun _ => False) eM4 fq3) (fun h => h)
  have tq3 := zob.new eM4 (by decide)
  refine ⟨by rw [hR]; decide, by rw [hR]; decide, (s_X7_init (tq3.1)).weak (fun M5 v hv => ?_)⟩
  obtain ⟨hle, rfl, hsp⟩ := hv
  refine ⟨rfl, ?_⟩
  have le := le.trans (hle.mono (F := fun z => z = a0 ∨ M0.1 z = 0) (fun z _ hz => Or.inr (by rw [hz]; exact gq3)))
  have ob := ob.le hle (na_q3)
  refine ⟨ob.1, fun M6 eM6 => ?_⟩
  have le := le.trans (zle.mkr eM6 (Or.inl rfl))
  have ob := ob.mkr eM6
  refine ⟨by rw [hR]; decide, by rw [hR]; decide, fun q7 fq7 M8 eM8 => ?_⟩
  have gq7 := le.fresh fq7
  have le := le.trans (zle.mkn eM8 fq7)
  have na_q7 := ob.ne0 fq7
  have ob := ob.le (zle.mkn (E := fun _ => False) eM8 fq7) (fun h => h)
  have tq7 := zob.new eM8 (by decide)
  refine ⟨ob.1, fun M9 eM9 => ?_⟩
  have le := le.trans (zle.mkr eM9 (Or.inl rfl))
  have ob := ob.mkr eM9
  rw [hq]
  exact ⟨le.only, rfl, trivial⟩
set_option maxRecDepth 100000 in
set_option maxHeartbeats 4000000 in
theorem s_X14_init {G : zG} {M0 : zM} {a0 : Nat} (h0 : M0.1 a0 = 14) : zC G yX14_init cX14_init 1 none rm_X14_init M0 [.ref a0] (zpost0 a0 M0) := by
  refine z_intro (by decide +kernel) (Nat.le_of_ble_eq_true rfl) (fun X O hR hq => ?_)
  refine b_X14_init_0 (n := 0) (k := 0) O hR ?_
  have ob : zob M0 a0 14 (M0.2.2.1 a0) (M0.2.2.2 a0) := ⟨h0, by decide, rfl, rfl⟩
  have le : zle (fun z => z = a0 ∨ M0.1 z = 0) M0 M0 := zle.refl _
  refine ⟨by rw [hR]; decide, by rw [hR]; decide, fun q1 fq1 M2 eM2 => ?_⟩
  have le := le.trans (zle.mknn eM2 fq1)
  have ob := ob.le (zle.mknn (E := fun _ => False) eM2 fq1) (fun h => h)
  refine ⟨ob.1, fun M3 eM3 => ?_⟩
  have le := le.trans (zle.mkr eM3 (Or.inl rfl))
  have ob := ob.mkr eM3
  refine ⟨by rw [hR]; decide, by rw [hR]; decide, fun q4 fq4 M5 eM5 => ?_⟩
  have gq4 := le.fresh fq4
  have le := le.trans (zle.mkn eM5 fq4)
  have na_q4 := ob.ne0 fq4
  have ob := ob.le (zle.mkn (E := fun _ => False) eM5 fq4) (fun h => h)
  have tq4 := zob.new eM5 (by decide)
  refine ⟨ob.1, fun M6 eM6 => ?_⟩
  have le := le.trans (zle.mkr eM6 (Or.inl rfl))
  have ob := ob.mkr eM6
  refine ⟨by rw [hR]; decide, by rw [hR]; decide, fun q7 fq7 M8 eM8 => ?_⟩
  have gq7 := le.fresh fq7
  have le := le.trans (zle.mkn eM8 fq7)
  have na_q7 := ob.ne0 fq7
  have ob := ob.le (zle.mkn (E := fun _ => False) eM8 fq7) (fun h => h)
  have tq7 := zob.new eM8 (by decide)
  refine ⟨ob.1, fun M9 eM9 => ?_⟩
  have le := le.trans (zle.mkr eM9 (Or.inl rfl))
  have ob := ob.mkr eM9
  refine ⟨by rw [hR]; decide, by rw [hR]; decide, fun q10 fq10 M11 eM11 => ?_⟩
  have gq10 := le.fresh fq10
  have le := le.trans (zle.mkn eM11 fq10)
  have na_q10 := ob.ne0 fq10
  have ob := ob.le (zle.mkn (E := fun _ => False) eM11 fq10) (fun h => h)
  have tq10 := zob.new eM11 (by decide)
  refine ⟨ob.1, fun M12 eM12 => ?_⟩
  have le := le.trans (zle.mkr eM12 (Or.inl rfl))
  have ob := ob.mkr eM12
  refine ⟨by rw [hR]; decide, by rw [hR]; decide, fun q13 fq13 M14 eM14 => ?_⟩
  have gq13 := le.fresh fq13
  have le := le.trans (zle.mkn eM14 fq13)
  have na_q13 := ob.ne0 fq13
  have ob := ob.le (zle.mkn (E := fun _ => False) eM14 fq13) (fun h => h)
  have tq13 := zob.new eM14 (by decide)
  refine ⟨ob.1, fun M15 eM15 => ?_⟩
  have le := le.trans (zle.mkr eM15 (Or.inl rfl))
  have ob := ob.mkr eM15
  rw [hq]
  exact ⟨le.only, rfl, trivial⟩
set_option maxRecDepth 100000 in
set_option maxHeartbeats 4000000 in
theorem s_X13_init {G : zG} {M0 : zM} {a0 : Nat} (h0 : M0.1 a0 = 13) : zC G yX13_init cX13_init 1 none rm_X13_init M0 [.ref a0] (zpost0 a0 M0) := by
  refine z_intro (by decide +kernel) (Nat.le_of_ble_eq_true rfl) (fun X O hR hq => ?_)
  refine b_X13_init_0 (n := 0) (k := 0) O hR ?_
  have ob : zob M0 a0 13 (M0.2.2.1 a0) (M0.2.2.2 a0) := ⟨h0, by decide, rfl, rfl⟩
  have le : zle (fun z => z = a0 ∨ M0.1 z = 0) M0 M0 := zle.refl _
  refine ⟨by rw [hR]; decide, by rw [hR]; decide, fun q1 fq1 M2 eM2 => ?_⟩
  have gq1 := le.fresh fq1
  have le := le.trans (zle.mkn eM2 fq1)
  have na_q1 := ob.ne0 fq1
  have ob := ob.le (zle.mkn (E := fun _ => False) eM2 fq1) (fun h => h)
  have tq1 := zob.new eM2 (by decide)
  refine ⟨by rw [hR]; decide, by rw [hR]; decide, (s_X14_init (tq1.1)).weak (fun M3 v hv => ?_)⟩
  obtain ⟨hle, rfl, hsp⟩ := hv
  refine ⟨rfl, ?_⟩
  have le := le.trans (hle.mono (F := fun z => z = a0 ∨ M0.1 z = 0) (fun z _ hz => Or.inr (by rw [hz]; exact gq1)))
  have ob := ob.le hle (na_q1)
  refine ⟨ob.1, fun M4 eM4 => ?_⟩
  have le := le.trans (zle.mkr eM4 (Or.inl rfl))
  have ob := ob.mkr eM4
  refine ⟨by rw [hR]; decide, by rw [hR]; decide, fun q5 fq5 M6 eM6 => ?_⟩
  have gq5 := le.fresh fq5
  have le := le.trans (zle.mkn eM6 fq5)
  have na_q5 := ob.ne0 fq5
  have ob := ob.le (zle.mkn (E := fun _ => False) eM6 fq5) (fun h => h)
  have tq5 := zob.new eM6 (by decide)
  refine ⟨ob.1, fun M7 eM7 => ?_⟩
  have le := le.trans (zle.mkr eM7 (Or.inl rfl))
  have ob := ob.mkr eM7
  refine ⟨by rw [hR]; decide, by rw [hR]; decide, fun q8 fq8 M9 eM9 => ?_⟩
  have gq8 := le.fresh fq8
  have le := le.trans (zle.mkn eM9 fq8)
  have na_q8 := ob.ne0 fq8
  have ob := ob.le (zle.mkn (E := fun _ => False) eM9 fq8) (fun h => h)
  have tq8 := zob.new eM9 (by decide)
  refine ⟨ob.1, fun M10 eM10 => ?_⟩
  have le := le.trans (zle.mkr eM10 (Or.inl rfl))
  have ob := ob.mkr eM10
  refine ⟨by rw [hR]; decide, by rw [hR]; decide, fun q11 fq11 M12 eM12 => ?_⟩
  have gq11 := le.fresh fq11
  have le := le.trans (zle.mkn eM12 fq11)
  have na_q11 := ob.ne0 fq11
  have ob := ob.le (zle.mkn (E := fun _ => False) eM12 fq11) (fun h => h)
  have tq11 := zob.new eM12 (by decide)
  refine ⟨ob.1, fun M13 eM13 => ?_⟩
  have le := le.trans (zle.mkr eM13 (Or.inl rfl))
  have ob := ob.mkr eM13
  refine ⟨by rw [hR]; decide, by rw [hR]; decide, fun q14 fq14 M15 eM15 => ?_⟩
  have gq14 := le.fresh fq14
  have le := le.trans (zle.mkn eM15 fq14)
  have na_q14 := ob.ne0 fq14
  have ob := ob.le (zle.mkn (E := fun _ => False) eM15 fq14) (fun h => h)
  have tq14 := zob.new eM15 (by decide)
  refine ⟨ob.1, fun M16 eM16 => ?_⟩
  have le := le.trans (zle.mkr eM16 (Or.inl rfl))
  have ob := ob.mkr eM16
  refine ⟨by rw [hR]; decide, by rw [hR]; decide, fun q17 fq17 M18 eM18 => ?_⟩
  have gq17 := le.fresh fq17
  have le := le.trans (zle.mkn eM18 fq17)
  have na_q17 := ob.ne0 fq17
  have ob := ob.le (zle.mkn (E := fun _ => False) eM18 fq17) (fun h => h)
  have tq17 := zob.new eM18 (by decide)
  refine ⟨ob.1, fun M19 eM19 => ?_⟩
  have le := le.trans (zle.mkr eM19 (Or.inl rfl))
  have ob := ob.mkr eM19
  refine ⟨by rw [hR]; decide, by rw [hR]; decide, fun q20 fq20 M21 eM21 => ?_⟩
  have gq20 := le.fresh fq20
  have le := le.trans (zle.mkn eM21 fq20)
  have na_q20 := ob.ne0 fq20
  have ob := ob.le (zle.mkn (E := fun _ => False) eM21 fq20) (fun h => h)
  have tq20 := zob.new eM21 (by decide)
  refine ⟨ob.1, fun M22 eM22 => ?_⟩
  have le := le.trans (zle.mkr eM22 (Or.inl rfl))
  have ob := ob.mkr eM22
  refine ⟨by rw [hR]; decide, by rw [hR]; decide, fun q23 fq23 M24 eM24 => ?_⟩
  have gq23 := le.fresh fq23
  have le := le.trans (zle.mkn eM24 fq23)
  have na_q23 := ob.ne0 fq23
  have ob := ob.le (zle.mkn (E := fun _ => False) eM24 fq23) (fun h => h)
  have tq23 := zob.new eM24 (by decide)
  refine ⟨ob.1, fun M25 eM25 => ?_⟩
  have le := le.trans (zle.mkr eM25 (Or.inl rfl))
  have ob := ob.mkr eM25
  refine ⟨by rw [hR]; decide, by rw [hR]; decide, fun q26 fq26 M27 eM27 => ?_⟩
  have gq26 := le.fresh fq26
  have le := le.trans (zle.mkn eM27 fq26)
  have na_q26 := ob.ne0 fq26
  have ob := ob.le (zle.mkn (E := fun _ => False) eM27 fq26) (fun h => h)
  have tq26 := zob.new eM27 (by decide)
  refine ⟨ob.1, fun M28 eM28 => ?_⟩
  have le := le.trans (zle.mkr eM28 (Or.inl rfl))
  have ob := ob.mkr eM28
  refine ⟨by rw [hR]; decide, by rw [hR]; decide, fun q29 fq29 M30 eM30 => ?_⟩
  have gq29 := le.fresh fq29
  have le := le.trans (zle.mkn eM30 fq29)
  have na_q29 := ob.ne0 fq29
  have ob := ob.le (zle.mkn (E := fun _ => False) eM30 fq29) (fun h => h)
  have tq29 := zob.new eM30 (by decide)
  refine ⟨ob.1, fun M31 eM31 => ?_⟩
  have le := le.trans (zle.mkr eM31 (Or.inl rfl))
  have ob := ob.mkr eM31
  refine ⟨by rw [hR]; decide, by rw [hR]; decide, fun q32 fq32 M33 eM33 => ?_⟩
  have gq32 := le.fresh fq32
  have le := le.trans (zle.mkn eM33 fq32)
  have na_q32 := ob.ne0 fq32
  have ob := ob.le (zle.mkn (E := fun _ => False) eM33 fq32) (fun h => h)
  have tq32 := zob.new eM33 (by decide)
  refine ⟨ob.1, fun M34 eM34 => ?_⟩
  have le := le.trans (zle.mkr eM34 (Or.inl rfl))
  have ob := ob.mkr eM34
  refine ⟨ob.1, fun M35 eM35 => ?_⟩
  have le := le.trans (zle.mki eM35 (Or.inl rfl))
  have ob := ob.mki eM35
  refine ⟨by rw [hR]; decide, by rw [hR]; decide, fun q36 fq36 M37 eM37 => ?_⟩
  have gq36 := le.fresh fq36
  have le := le.trans (zle.mkn eM37 fq36)
  have na_q36 := ob.ne0 fq36
  have ob := ob.le (zle.mkn (E := fun _ => False) eM37 fq36) (fun h => h)
  have tq36 := zob.new eM37 (by decide)
  refine ⟨ob.1, fun M38 eM38 => ?_⟩
  have le := le.trans (zle.mkr eM38 (Or.inl rfl))
  have ob := ob.mkr eM38
  rw [hq]
  exact ⟨le.only, rfl, trivial⟩
end
