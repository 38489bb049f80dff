section
-- ===== PART A: goes FIRST, ahead of the names: the tables' words, and 'selects' of the private methods out of them =====
/-- a private method of a class that the tables say can be made, by its rows of tables_1 -/
def lw_okq (q : MethodName × Nat) : Prop := (q.1.cls ≠ "java/lang/invoke/MethodHandle" ∧ q.1.cls ≠ "java/lang/invoke/VarHandle") ∧ Cond.instantiable q.1.cls q.2 ∈ tables_1 ∧ Cond.privateMethod q.1 ∈ tables_1 ∧ Cond.instanceMethod q.1 ∈ tables_1
theorem lw_p0 : lw_okq (⟨"SmokeRacks", "settled", "(I)I"⟩, 10) := ⟨⟨by decide +kernel, by decide +kernel⟩, List.mem_of_getElem? (i := 27) (by decide +kernel), List.mem_of_getElem? (i := 399) (by decide +kernel), List.mem_of_getElem? (i := 400) (by decide +kernel)⟩
theorem lw_p1 : lw_okq (⟨"java/lang/Throwable", "fillInStackTrace", "(I)Ljava/lang/Throwable;"⟩, 6) := ⟨⟨by decide +kernel, by decide +kernel⟩, List.mem_of_getElem? (i := 445) (by decide +kernel), List.mem_of_getElem? (i := 443) (by decide +kernel), List.mem_of_getElem? (i := 444) (by decide +kernel)⟩
theorem lw_p2 : lw_okq (⟨"SmokeRacks", "needFish", "(I)V"⟩, 10) := ⟨⟨by decide +kernel, by decide +kernel⟩, List.mem_of_getElem? (i := 27) (by decide +kernel), List.mem_of_getElem? (i := 746) (by decide +kernel), List.mem_of_getElem? (i := 747) (by decide +kernel)⟩
theorem lw_p3 : lw_okq (⟨"SmokeRacks", "found", "(I)I"⟩, 10) := ⟨⟨by decide +kernel, by decide +kernel⟩, List.mem_of_getElem? (i := 27) (by decide +kernel), List.mem_of_getElem? (i := 806) (by decide +kernel), List.mem_of_getElem? (i := 807) (by decide +kernel)⟩
theorem lw_p4 : lw_okq (⟨"SmokeRacks", "needRack", "(I)V"⟩, 10) := ⟨⟨by decide +kernel, by decide +kernel⟩, List.mem_of_getElem? (i := 27) (by decide +kernel), List.mem_of_getElem? (i := 832) (by decide +kernel), List.mem_of_getElem? (i := 833) (by decide +kernel)⟩
theorem lw_p5 : lw_okq (⟨"SmokeRacks", "needForecastHours", "(I)V"⟩, 10) := ⟨⟨by decide +kernel, by decide +kernel⟩, List.mem_of_getElem? (i := 27) (by decide +kernel), List.mem_of_getElem? (i := 870) (by decide +kernel), List.mem_of_getElem? (i := 871) (by decide +kernel)⟩
theorem lw_p6 : lw_okq (⟨"SmokeRacks$Forecast", "tryHour", "(IZ)V"⟩, 2) := ⟨⟨by decide +kernel, by decide +kernel⟩, List.mem_of_getElem? (i := 215) (by decide +kernel), List.mem_of_getElem? (i := 881) (by decide +kernel), List.mem_of_getElem? (i := 882) (by decide +kernel)⟩
theorem lw_p7 : lw_okq (⟨"SmokeRacks$House", "placeOf", "(II)I"⟩, 10) := ⟨⟨by decide +kernel, by decide +kernel⟩, List.mem_of_getElem? (i := 35) (by decide +kernel), List.mem_of_getElem? (i := 965) (by decide +kernel), List.mem_of_getElem? (i := 966) (by decide +kernel)⟩
theorem lw_p8 : lw_okq (⟨"SmokeRacks$Script", "findFault", "()I"⟩, 9) := ⟨⟨by decide +kernel, by decide +kernel⟩, List.mem_of_getElem? (i := 230) (by decide +kernel), List.mem_of_getElem? (i := 1016) (by decide +kernel), List.mem_of_getElem? (i := 1017) (by decide +kernel)⟩
theorem lw_p9 : lw_okq (⟨"SmokeRacks$Script", "signNow", "()C"⟩, 9) := ⟨⟨by decide +kernel, by decide +kernel⟩, List.mem_of_getElem? (i := 230) (by decide +kernel), List.mem_of_getElem? (i := 1024) (by decide +kernel), List.mem_of_getElem? (i := 1025) (by decide +kernel)⟩
theorem lw_p10 : lw_okq (⟨"SmokeRacks$Script", "readNumber", "(I)I"⟩, 9) := ⟨⟨by decide +kernel, by decide +kernel⟩, List.mem_of_getElem? (i := 230) (by decide +kernel), List.mem_of_getElem? (i := 1032) (by decide +kernel), List.mem_of_getElem? (i := 1033) (by decide +kernel)⟩
theorem lw_p11 : lw_okq (⟨"SmokeRacks$Script", "readHook", "()Z"⟩, 9) := ⟨⟨by decide +kernel, by decide +kernel⟩, List.mem_of_getElem? (i := 230) (by decide +kernel), List.mem_of_getElem? (i := 1039) (by decide +kernel), List.mem_of_getElem? (i := 1040) (by decide +kernel)⟩
theorem lw_p12 : lw_okq (⟨"SmokeRacksModel", "refuses", "(II)I"⟩, 21) := ⟨⟨by decide +kernel, by decide +kernel⟩, List.mem_of_getElem? (i := 1198) (by decide +kernel), List.mem_of_getElem? (i := 1280) (by decide +kernel), List.mem_of_getElem? (i := 1281) (by decide +kernel)⟩
theorem lw_p13 : lw_okq (⟨"SmokeRacksModel", "keeps", "([I)V"⟩, 21) := ⟨⟨by decide +kernel, by decide +kernel⟩, List.mem_of_getElem? (i := 1198) (by decide +kernel), List.mem_of_getElem? (i := 1284) (by decide +kernel), List.mem_of_getElem? (i := 1285) (by decide +kernel)⟩
theorem lw_p14 : lw_okq (⟨"SmokeRacksModel", "lays", "(III)V"⟩, 21) := ⟨⟨by decide +kernel, by decide +kernel⟩, List.mem_of_getElem? (i := 1198) (by decide +kernel), List.mem_of_getElem? (i := 1291) (by decide +kernel), List.mem_of_getElem? (i := 1292) (by decide +kernel)⟩
theorem lw_p15 : lw_okq (⟨"SmokeRacksModel", "isFish", "(I)Z"⟩, 21) := ⟨⟨by decide +kernel, by decide +kernel⟩, List.mem_of_getElem? (i := 1198) (by decide +kernel), List.mem_of_getElem? (i := 1299) (by decide +kernel), List.mem_of_getElem? (i := 1300) (by decide +kernel)⟩
def lw_privs_1 : List (MethodName × Nat) := [(⟨"SmokeRacks", "settled", "(I)I"⟩, 10), (⟨"java/lang/Throwable", "fillInStackTrace", "(I)Ljava/lang/Throwable;"⟩, 6), (⟨"SmokeRacks", "needFish", "(I)V"⟩, 10), (⟨"SmokeRacks", "found", "(I)I"⟩, 10), (⟨"SmokeRacks", "needRack", "(I)V"⟩, 10), (⟨"SmokeRacks", "needForecastHours", "(I)V"⟩, 10), (⟨"SmokeRacks$Forecast", "tryHour", "(IZ)V"⟩, 2), (⟨"SmokeRacks$House", "placeOf", "(II)I"⟩, 10), (⟨"SmokeRacks$Script", "findFault", "()I"⟩, 9), (⟨"SmokeRacks$Script", "signNow", "()C"⟩, 9), (⟨"SmokeRacks$Script", "readNumber", "(I)I"⟩, 9), (⟨"SmokeRacks$Script", "readHook", "()Z"⟩, 9), (⟨"SmokeRacksModel", "refuses", "(II)I"⟩, 21), (⟨"SmokeRacksModel", "keeps", "([I)V"⟩, 21), (⟨"SmokeRacksModel", "lays", "(III)V"⟩, 21), (⟨"SmokeRacksModel", "isFish", "(I)Z"⟩, 21)]
theorem lw_r1 : ∀ q ∈ lw_privs_1, lw_okq q := List.forall_mem_cons.mpr ⟨lw_p0, List.forall_mem_cons.mpr ⟨lw_p1, List.forall_mem_cons.mpr ⟨lw_p2, List.forall_mem_cons.mpr ⟨lw_p3, List.forall_mem_cons.mpr ⟨lw_p4, List.forall_mem_cons.mpr ⟨lw_p5, List.forall_mem_cons.mpr ⟨lw_p6, List.forall_mem_cons.mpr ⟨lw_p7, List.forall_mem_cons.mpr ⟨lw_p8, List.forall_mem_cons.mpr ⟨lw_p9, List.forall_mem_cons.mpr ⟨lw_p10, List.forall_mem_cons.mpr ⟨lw_p11, List.forall_mem_cons.mpr ⟨lw_p12, List.forall_mem_cons.mpr ⟨lw_p13, List.forall_mem_cons.mpr ⟨lw_p14, List.forall_mem_cons.mpr ⟨lw_p15, fun _ h => absurd h List.not_mem_nil⟩⟩⟩⟩⟩⟩⟩⟩⟩⟩⟩⟩⟩⟩⟩⟩
theorem lw_p16 : lw_okq (⟨"SmokeRacksModel", "of", "(II)I"⟩, 21) := ⟨⟨by decide +kernel, by decide +kernel⟩, List.mem_of_getElem? (i := 1198) (by decide +kernel), List.mem_of_getElem? (i := 1303) (by decide +kernel), List.mem_of_getElem? (i := 1304) (by decide +kernel)⟩
theorem lw_p17 : lw_okq (⟨"SmokeRacksModel", "many", "(I)I"⟩, 21) := ⟨⟨by decide +kernel, by decide +kernel⟩, List.mem_of_getElem? (i := 1198) (by decide +kernel), List.mem_of_getElem? (i := 1307) (by decide +kernel), List.mem_of_getElem? (i := 1308) (by decide +kernel)⟩
theorem lw_p18 : lw_okq (⟨"SmokeRacksModel", "onHook", "(II)I"⟩, 21) := ⟨⟨by decide +kernel, by decide +kernel⟩, List.mem_of_getElem? (i := 1198) (by decide +kernel), List.mem_of_getElem? (i := 1322) (by decide +kernel), List.mem_of_getElem? (i := 1323) (by decide +kernel)⟩
theorem lw_p19 : lw_okq (⟨"SmokeRacksModel", "hangs", "(I)Z"⟩, 21) := ⟨⟨by decide +kernel, by decide +kernel⟩, List.mem_of_getElem? (i := 1198) (by decide +kernel), List.mem_of_getElem? (i := 1326) (by decide +kernel), List.mem_of_getElem? (i := 1327) (by decide +kernel)⟩
theorem lw_p20 : lw_okq (⟨"SmokeRacksModel", "onRack", "(I)I"⟩, 21) := ⟨⟨by decide +kernel, by decide +kernel⟩, List.mem_of_getElem? (i := 1198) (by decide +kernel), List.mem_of_getElem? (i := 1330) (by decide +kernel), List.mem_of_getElem? (i := 1331) (by decide +kernel)⟩
theorem lw_p21 : lw_okq (⟨"SmokeRacksModel", "turns", "(I)V"⟩, 21) := ⟨⟨by decide +kernel, by decide +kernel⟩, List.mem_of_getElem? (i := 1198) (by decide +kernel), List.mem_of_getElem? (i := 1338) (by decide +kernel), List.mem_of_getElem? (i := 1339) (by decide +kernel)⟩
theorem lw_p22 : lw_okq (⟨"SmokeRacksModel", "hour", "()V"⟩, 21) := ⟨⟨by decide +kernel, by decide +kernel⟩, List.mem_of_getElem? (i := 1198) (by decide +kernel), List.mem_of_getElem? (i := 1365) (by decide +kernel), List.mem_of_getElem? (i := 1366) (by decide +kernel)⟩
theorem lw_p23 : lw_okq (⟨"SmokeRacksModel", "smokes", "(I)V"⟩, 21) := ⟨⟨by decide +kernel, by decide +kernel⟩, List.mem_of_getElem? (i := 1198) (by decide +kernel), List.mem_of_getElem? (i := 1369) (by decide +kernel), List.mem_of_getElem? (i := 1370) (by decide +kernel)⟩
theorem lw_p24 : lw_okq (⟨"SmokeRacksModel", "heatOf", "(I)I"⟩, 21) := ⟨⟨by decide +kernel, by decide +kernel⟩, List.mem_of_getElem? (i := 1198) (by decide +kernel), List.mem_of_getElem? (i := 1373) (by decide +kernel), List.mem_of_getElem? (i := 1374) (by decide +kernel)⟩
theorem lw_p25 : lw_okq (⟨"SmokeRacksModel", "isNear", "(I)Z"⟩, 21) := ⟨⟨by decide +kernel, by decide +kernel⟩, List.mem_of_getElem? (i := 1198) (by decide +kernel), List.mem_of_getElem? (i := 1377) (by decide +kernel), List.mem_of_getElem? (i := 1378) (by decide +kernel)⟩
theorem lw_p26 : lw_okq (⟨"SmokeRacksModel", "far", "(III)I"⟩, 21) := ⟨⟨by decide +kernel, by decide +kernel⟩, List.mem_of_getElem? (i := 1198) (by decide +kernel), List.mem_of_getElem? (i := 1381) (by decide +kernel), List.mem_of_getElem? (i := 1382) (by decide +kernel)⟩
theorem lw_p27 : lw_okq (⟨"SmokeRacksModel", "needs", "(I)I"⟩, 21) := ⟨⟨by decide +kernel, by decide +kernel⟩, List.mem_of_getElem? (i := 1198) (by decide +kernel), List.mem_of_getElem? (i := 1388) (by decide +kernel), List.mem_of_getElem? (i := 1389) (by decide +kernel)⟩
theorem lw_p28 : lw_okq (⟨"SmokeRacksModel", "bears", "(I)I"⟩, 21) := ⟨⟨by decide +kernel, by decide +kernel⟩, List.mem_of_getElem? (i := 1198) (by decide +kernel), List.mem_of_getElem? (i := 1392) (by decide +kernel), List.mem_of_getElem? (i := 1393) (by decide +kernel)⟩
theorem lw_p29 : lw_okq (⟨"SmokeRacksModel", "burnt", "()I"⟩, 21) := ⟨⟨by decide +kernel, by decide +kernel⟩, List.mem_of_getElem? (i := 1198) (by decide +kernel), List.mem_of_getElem? (i := 1396) (by decide +kernel), List.mem_of_getElem? (i := 1397) (by decide +kernel)⟩
theorem lw_p30 : lw_okq (⟨"SmokeRacksModel", "isBurnt", "(I)Z"⟩, 21) := ⟨⟨by decide +kernel, by decide +kernel⟩, List.mem_of_getElem? (i := 1198) (by decide +kernel), List.mem_of_getElem? (i := 1400) (by decide +kernel), List.mem_of_getElem? (i := 1401) (by decide +kernel)⟩
theorem lw_p31 : lw_okq (⟨"SmokeRacksModel", "isReady", "(I)Z"⟩, 21) := ⟨⟨by decide +kernel, by decide +kernel⟩, List.mem_of_getElem? (i := 1198) (by decide +kernel), List.mem_of_getElem? (i := 1408) (by decide +kernel), List.mem_of_getElem? (i := 1409) (by decide +kernel)⟩
def lw_privs_2 : List (MethodName × Nat) := [(⟨"SmokeRacksModel", "of", "(II)I"⟩, 21), (⟨"SmokeRacksModel", "many", "(I)I"⟩, 21), (⟨"SmokeRacksModel", "onHook", "(II)I"⟩, 21), (⟨"SmokeRacksModel", "hangs", "(I)Z"⟩, 21), (⟨"SmokeRacksModel", "onRack", "(I)I"⟩, 21), (⟨"SmokeRacksModel", "turns", "(I)V"⟩, 21), (⟨"SmokeRacksModel", "hour", "()V"⟩, 21), (⟨"SmokeRacksModel", "smokes", "(I)V"⟩, 21), (⟨"SmokeRacksModel", "heatOf", "(I)I"⟩, 21), (⟨"SmokeRacksModel", "isNear", "(I)Z"⟩, 21), (⟨"SmokeRacksModel", "far", "(III)I"⟩, 21), (⟨"SmokeRacksModel", "needs", "(I)I"⟩, 21), (⟨"SmokeRacksModel", "bears", "(I)I"⟩, 21), (⟨"SmokeRacksModel", "burnt", "()I"⟩, 21), (⟨"SmokeRacksModel", "isBurnt", "(I)Z"⟩, 21), (⟨"SmokeRacksModel", "isReady", "(I)Z"⟩, 21)]
theorem lw_r2 : ∀ q ∈ lw_privs_2, lw_okq q := List.forall_mem_cons.mpr ⟨lw_p16, List.forall_mem_cons.mpr ⟨lw_p17, List.forall_mem_cons.mpr ⟨lw_p18, List.forall_mem_cons.mpr ⟨lw_p19, List.forall_mem_cons.mpr ⟨lw_p20, List.forall_mem_cons.mpr ⟨lw_p21, List.forall_mem_cons.mpr ⟨lw_p22, List.forall_mem_cons.mpr ⟨lw_p23, List.forall_mem_cons.mpr ⟨lw_p24, List.forall_mem_cons.mpr ⟨lw_p25, List.forall_mem_cons.mpr ⟨lw_p26, List.forall_mem_cons.mpr ⟨lw_p27, List.forall_mem_cons.mpr ⟨lw_p28, List.forall_mem_cons.mpr ⟨lw_p29, List.forall_mem_cons.mpr ⟨lw_p30, List.forall_mem_cons.mpr ⟨lw_p31, fun _ h => absurd h List.not_mem_nil⟩⟩⟩⟩⟩⟩⟩⟩⟩⟩⟩⟩⟩⟩⟩⟩
theorem lw_p32 : lw_okq (⟨"SmokeRacksModel", "lacks", "(I)I"⟩, 21) := ⟨⟨by decide +kernel, by decide +kernel⟩, List.mem_of_getElem? (i := 1198) (by decide +kernel), List.mem_of_getElem? (i := 1412) (by decide +kernel), List.mem_of_getElem? (i := 1413) (by decide +kernel)⟩
theorem lw_p33 : lw_okq (⟨"SmokeRacksModel", "price", "(I)I"⟩, 21) := ⟨⟨by decide +kernel, by decide +kernel⟩, List.mem_of_getElem? (i := 1198) (by decide +kernel), List.mem_of_getElem? (i := 1416) (by decide +kernel), List.mem_of_getElem? (i := 1417) (by decide +kernel)⟩
theorem lw_p34 : lw_okq (⟨"SmokeRacksModel", "goes", "(I)V"⟩, 21) := ⟨⟨by decide +kernel, by decide +kernel⟩, List.mem_of_getElem? (i := 1198) (by decide +kernel), List.mem_of_getElem? (i := 1420) (by decide +kernel), List.mem_of_getElem? (i := 1421) (by decide +kernel)⟩
theorem lw_p35 : lw_okq (⟨"SmokeRacksModel", "fails", "(I)Z"⟩, 21) := ⟨⟨by decide +kernel, by decide +kernel⟩, List.mem_of_getElem? (i := 1198) (by decide +kernel), List.mem_of_getElem? (i := 1432) (by decide +kernel), List.mem_of_getElem? (i := 1433) (by decide +kernel)⟩
theorem lw_p36 : lw_okq (⟨"SmokeRacksModel", "burns", "(I)I"⟩, 21) := ⟨⟨by decide +kernel, by decide +kernel⟩, List.mem_of_getElem? (i := 1198) (by decide +kernel), List.mem_of_getElem? (i := 1473) (by decide +kernel), List.mem_of_getElem? (i := 1474) (by decide +kernel)⟩
theorem lw_p37 : lw_okq (⟨"SmokeRacksModel", "measured", "(II)I"⟩, 21) := ⟨⟨by decide +kernel, by decide +kernel⟩, List.mem_of_getElem? (i := 1198) (by decide +kernel), List.mem_of_getElem? (i := 1497) (by decide +kernel), List.mem_of_getElem? (i := 1498) (by decide +kernel)⟩
theorem lw_p38 : lw_okq (⟨"SmokeRacksModel", "isText", "()Z"⟩, 21) := ⟨⟨by decide +kernel, by decide +kernel⟩, List.mem_of_getElem? (i := 1198) (by decide +kernel), List.mem_of_getElem? (i := 1509) (by decide +kernel), List.mem_of_getElem? (i := 1510) (by decide +kernel)⟩
theorem lw_p39 : lw_okq (⟨"SmokeRacksModel", "commandHere", "()Z"⟩, 21) := ⟨⟨by decide +kernel, by decide +kernel⟩, List.mem_of_getElem? (i := 1198) (by decide +kernel), List.mem_of_getElem? (i := 1513) (by decide +kernel), List.mem_of_getElem? (i := 1514) (by decide +kernel)⟩
theorem lw_p40 : lw_okq (⟨"SmokeRacksModel", "here", "()I"⟩, 21) := ⟨⟨by decide +kernel, by decide +kernel⟩, List.mem_of_getElem? (i := 1198) (by decide +kernel), List.mem_of_getElem? (i := 1517) (by decide +kernel), List.mem_of_getElem? (i := 1518) (by decide +kernel)⟩
theorem lw_p41 : lw_okq (⟨"SmokeRacksModel", "skips", "(I)Z"⟩, 21) := ⟨⟨by decide +kernel, by decide +kernel⟩, List.mem_of_getElem? (i := 1198) (by decide +kernel), List.mem_of_getElem? (i := 1521) (by decide +kernel), List.mem_of_getElem? (i := 1522) (by decide +kernel)⟩
theorem lw_p42 : lw_okq (⟨"SmokeRacksModel", "hasTwo", "()Z"⟩, 21) := ⟨⟨by decide +kernel, by decide +kernel⟩, List.mem_of_getElem? (i := 1198) (by decide +kernel), List.mem_of_getElem? (i := 1525) (by decide +kernel), List.mem_of_getElem? (i := 1526) (by decide +kernel)⟩
theorem lw_p43 : lw_okq (⟨"SmokeRacksModel", "figures", "(II)Z"⟩, 21) := ⟨⟨by decide +kernel, by decide +kernel⟩, List.mem_of_getElem? (i := 1198) (by decide +kernel), List.mem_of_getElem? (i := 1529) (by decide +kernel), List.mem_of_getElem? (i := 1530) (by decide +kernel)⟩
theorem lw_p44 : lw_okq (⟨"SmokeRacksModel", "carries", "(I)I"⟩, 21) := ⟨⟨by decide +kernel, by decide +kernel⟩, List.mem_of_getElem? (i := 1198) (by decide +kernel), List.mem_of_getElem? (i := 1533) (by decide +kernel), List.mem_of_getElem? (i := 1534) (by decide +kernel)⟩
theorem lw_p45 : lw_okq (⟨"SmokeRacksModel", "writes", "(I)V"⟩, 21) := ⟨⟨by decide +kernel, by decide +kernel⟩, List.mem_of_getElem? (i := 1198) (by decide +kernel), List.mem_of_getElem? (i := 1561) (by decide +kernel), List.mem_of_getElem? (i := 1562) (by decide +kernel)⟩
theorem lw_p46 : lw_okq (⟨"SmokeRacksModel", "writesNumber", "(I)V"⟩, 21) := ⟨⟨by decide +kernel, by decide +kernel⟩, List.mem_of_getElem? (i := 1198) (by decide +kernel), List.mem_of_getElem? (i := 1569) (by decide +kernel), List.mem_of_getElem? (i := 1570) (by decide +kernel)⟩
def lw_privs_3 : List (MethodName × Nat) := [(⟨"SmokeRacksModel", "lacks", "(I)I"⟩, 21), (⟨"SmokeRacksModel", "price", "(I)I"⟩, 21), (⟨"SmokeRacksModel", "goes", "(I)V"⟩, 21), (⟨"SmokeRacksModel", "fails", "(I)Z"⟩, 21), (⟨"SmokeRacksModel", "burns", "(I)I"⟩, 21), (⟨"SmokeRacksModel", "measured", "(II)I"⟩, 21), (⟨"SmokeRacksModel", "isText", "()Z"⟩, 21), (⟨"SmokeRacksModel", "commandHere", "()Z"⟩, 21), (⟨"SmokeRacksModel", "here", "()I"⟩, 21), (⟨"SmokeRacksModel", "skips", "(I)Z"⟩, 21), (⟨"SmokeRacksModel", "hasTwo", "()Z"⟩, 21), (⟨"SmokeRacksModel", "figures", "(II)Z"⟩, 21), (⟨"SmokeRacksModel", "carries", "(I)I"⟩, 21), (⟨"SmokeRacksModel", "writes", "(I)V"⟩, 21), (⟨"SmokeRacksModel", "writesNumber", "(I)V"⟩, 21)]
theorem lw_r3 : ∀ q ∈ lw_privs_3, lw_okq q := List.forall_mem_cons.mpr ⟨lw_p32, List.forall_mem_cons.mpr ⟨lw_p33, List.forall_mem_cons.mpr ⟨lw_p34, List.forall_mem_cons.mpr ⟨lw_p35, List.forall_mem_cons.mpr ⟨lw_p36, List.forall_mem_cons.mpr ⟨lw_p37, List.forall_mem_cons.mpr ⟨lw_p38, List.forall_mem_cons.mpr ⟨lw_p39, List.forall_mem_cons.mpr ⟨lw_p40, List.forall_mem_cons.mpr ⟨lw_p41, List.forall_mem_cons.mpr ⟨lw_p42, List.forall_mem_cons.mpr ⟨lw_p43, List.forall_mem_cons.mpr ⟨lw_p44, List.forall_mem_cons.mpr ⟨lw_p45, List.forall_mem_cons.mpr ⟨lw_p46, fun _ h => absurd h List.not_mem_nil⟩⟩⟩⟩⟩⟩⟩⟩⟩⟩⟩⟩⟩⟩⟩
def lw_privs : List (MethodName × Nat) := lw_privs_1 ++ (lw_privs_2 ++ (lw_privs_3))
def lw_tbl : List Cond := k2_sels lw_privs ++ tables_1
theorem lw_privs_ok : ∀ q ∈ lw_privs, lw_okq q := by
  show ∀ q ∈ lw_privs_1 ++ (lw_privs_2 ++ (lw_privs_3)), lw_okq q
  exact List.forall_mem_append.mpr ⟨lw_r1, List.forall_mem_append.mpr ⟨lw_r2, lw_r3⟩⟩
/-- the streams that the claim lets the run draw from -/
abbrev lw_cs : List Choice := [Jvm.Choice.named "NaN.bits"]
theorem lw_bits : nanBits ∈ lw_cs := by first | decide | exact List.mem_cons_self | simp [lw_cs, nanBits]

/-! ===== BEGIN words of one list among another's, by their places ===== -/
theorem goodIn_r {big : List Cond} (ws : List Cond) (ps : List Nat) (hp : ws = ps.filterMap (fun i => big[i]?)) (h : ws.all goodWord = true) : GoodIn big ws := by
  intro w hw
  have h1 := List.all_eq_true.mp h w hw
  rw [hp] at hw
  obtain ⟨i, -, hi⟩ := List.mem_filterMap.mp hw
  have hm : w ∈ big := by first | exact List.mem_of_getElem? hi | exact List.getElem?_mem hi
  exact ⟨hm, good_of_word h1⟩
theorem goodIn_app {big a b : List Cond} (ha : GoodIn big a) (hb : GoodIn big b) : GoodIn big (a ++ b) := fun w h => (List.mem_append.mp h).elim (ha w) (hb w)
theorem goodIn_ca {big a b : List Cond} {c : Cond} (ha : GoodIn big (c :: a)) (hb : GoodIn big b) : GoodIn big (c :: (a ++ b)) := fun w h => (List.mem_cons.mp h).elim (fun e => ha w (List.mem_cons.mpr (Or.inl e))) (fun h => (List.mem_append.mp h).elim (fun h => ha w (List.mem_cons.mpr (Or.inr h))) (hb w))
theorem goodIn_sub {big ws : List Cond} (hm : ∀ w ∈ ws, w ∈ big) (h : ws.all goodWord = true) : GoodIn big ws := fun w hw => ⟨hm w hw, good_of_word (List.all_eq_true.mp h w hw)⟩
/-! ===== END ===== -/

/-! ===== BEGIN exceptions that leave a method, and their catching by the caller (launches without stack traces) ===== -/
section VXA
/-! The laws vx_back, vx_callV, vx_callS, vx_callSW, vx_throw0, vx_throwS follow proofs of the library, with one case more: JvmDerived/Free/Laws.lean (Back.of_free), Shelf42/LK1.lean (callV, callS), Shelf/KitTraced.lean (throwNew0V, throwNewS). -/
/-- where a method has thrown q: the class by its name, the cell, what was written, the world -/
def vx_T (XC : String → State → State → Prop) (st : State) (q : Addr) (t : State) (mc ms : Nat) (free : Addr → Prop) : Prop :=
  ∃ (E : String) (ce : Cell) (L : List Loc), XC E st t ∧ t.heap[q]? = some ce ∧ ce.vm = .none ∧ st.vm.findClass E = some ce.cls ∧ st.WarmedH t.vm ∧ st.sameButNew ({ t with vm := st.vm } : State) L mc ms ∧ ∀ z ∈ L, free z.base
def vx_Q (Qc : Array Value → State → Outcome → State → Prop) (XC : String → State → State → Prop) (mc ms : Nat) (free : Addr → Prop) : Array Value → State → Outcome → State → Prop := fun a st o t =>
  (Qc a st o t ∧ ∃ L, FrameEnd st o t L mc ms ∧ ∀ q ∈ L, free q.base) ∨ ∃ q, o = .threw q ∧ vx_T XC st q t mc ms free
/-- a callee that returns or throws -/
def vx_Met (l : Launch) (y : MethodName) (ws : List Cond) (rm : Room) (Pc : Array Value → State → Prop) (Qc : Array Value → State → Outcome → State → Prop) (XC : String → State → State → Prop) (mc ms : Nat) (free : Addr → Prop) : Prop :=
  MetFree l y (headSpec ws rm) Pc (fun _ _ _ _ _ => True) (vx_Q Qc XC mc ms free)
def vx_Post (XC : String → State → State → Prop) (mc ms : Nat) (free : Addr → Prop) : Pt → Array Value → Addr → Pt → Prop := fun A a q B =>
  ∃ (g : JFrame) (mk : MethodId) (t : State) (L : List Loc) (E : String) (ce : Cell), B.U.heap = t.heap ∧ B.U.vm = t.vm ∧ XC E (A.U.calling g mk a) t ∧ t.heap[q]? = some ce ∧ ce.vm = .none ∧ A.U.vm.findClass E = some ce.cls ∧ B.locs = A.locs ++ L ∧ (∀ z ∈ L, free z.base) ∧ B.cells = A.cells + mc ∧ B.slots = A.slots + ms
def vx_Back (l : Launch) (R : Room) (p : Program) (e : Env) (below : List Frame) (s : State) (sargs : Array Value) (y : MethodName) (len W9 : Nat)
    (Pre : Pt → Array Value → Prop) (Post : Pt → Array Value → Option Value → Pt → Prop) (PostX : Pt → Array Value → Addr → Pt → Prop) : Prop :=
  ∀ (m : MethodId) (meth : Method) (c : Code) (A : Pt) (g : JFrame) (ig : Instr) (mk : MethodId) (a : Array Value),
    Stand p l e R s m sargs below meth c A.U A.locs A.cells A.slots → g.method = m → g.locals.size = c.maxLocals → decode c.code g.pc = .ok (ig, len) →
    2 * g.monitorRoom + (g.stack.map fun v => v.category).sum ≤ W9 → A.U.methodNamed? y = some mk → Pre A a →
    (∃ (v : Option Value) (B : Pt), Stand p l e R s m sargs below meth c B.U B.locs B.cells B.slots ∧ Post A a v B ∧
      Steps p.tables e below (doInvoke e (A.U.setTop g) [] mk a).1 (B.U.setTop { g with pc := g.pc + len, stack := v.toList ++ g.stack })) ∨
    (∃ (q : Addr) (B : Pt), Stand p l e R s m sargs below meth c B.U B.locs B.cells B.slots ∧ PostX A a q B ∧
      Steps p.tables e below (doInvoke e (A.U.setTop g) [] mk a).1 ((B.U.setTop g).pushFrame (.throwing q)))
section Payer
variable {l : Launch} {R : Room} {p : Program} {e : Env} {below : List Frame} {s : State} {sargs : Array Value} {y : MethodName} {len W9 : Nat}
theorem vx_back {ws : List Cond} {rm : Room} {Pc : Array Value → State → Prop} {Qc : Array Value → State → Outcome → State → Prop} {XC : String → State → State → Prop} {mc ms : Nat} {free : Addr → Prop} {bytes : ByteArray} {maxL : Nat} {ret : Option FieldType}
    (hM : vx_Met l y ws rm Pc Qc XC mc ms free) (hblind : FrameBlind Pc) (hrc : rm.cells = mc) (hrs : rm.slots = ms)
    (hframes : rm.frames + 1 ≤ R.frames) (hlocals : W9 + (maxL + 11) + rm.locals ≤ R.locals)
    (hws : ∀ w ∈ ws, ∀ a' U, s.WarmedH U.vm → w.before a' U = true) (hcode : Cond.code y bytes maxL ret ∈ ws) (hinit : ∀ a' U, s.WarmedH U.vm → (Cond.initialized y.cls).before a' U = true) :
    vx_Back l R p e below s sargs y len W9 (PreOf R mc ms Pc) (PostOf Qc mc ms free) (vx_Post XC mc ms free) := by
  intro m meth c A g ig mk a X hg hsize hdg hW hn hp
  have h1 : (headSpec ws rm).pre.before a A.U = true := atoms_intro fun w hw => hws w hw _ _ X.warmed
  have h2 : (Cond.code y bytes maxL ret).before a A.U = true := hws _ hcode _ _ X.warmed
  have h3 : (Cond.initialized y.cls).before a A.U = true := hinit _ _ X.warmed
  have h4 : A.cells + (headSpec ws rm).room.cells ≤ R.cells := by rw [show (headSpec ws rm).room.cells = mc from hrc]; exact hp.1
  have h5 : A.slots + (headSpec ws rm).room.slots ≤ R.slots := by rw [show (headSpec ws rm).room.slots = ms from hrs]; exact hp.2.1
  have hPc : Pc a (A.U.calling g mk a) := hblind _ _ _ _ hp.2.2
  obtain ⟨U, Ls, c0, s0⟩ := A
  dsimp only [Pt.U, Pt.locs, Pt.cells, Pt.slots] at h1 h2 h3 h4 h5 X hn hPc ⊢
  obtain ⟨methY, cY, hmY, hcY, -, hlY, -, -, -, -⟩ := Cond.code_spec hn h2
  obtain ⟨kY, hkY, -⟩ := className_of_methodNamed hn
  have hinitY : kY.init = .initialized := Cond.initialized_spec (findClass_of_methodNamed hn) hkY h3
  have h : At U g.method c below := by rw [hg]; exact X.here
  have hlocals9 : W9 + (maxL + 11) + (headSpec ws rm).room.locals ≤ R.locals := hlocals
  have happ : (headSpec ws rm).appliesLoose y e.platform (U.calling g mk a) = true :=
    Spec.appliesLoose_calling (g := g) h hdg hn hkY hinitY
      (X.room_calling (g := g) (R' := (headSpec ws rm).room) hsize hmY hcY hframes (by rw [hlY]; omega) h4 h5) h1
  obtain ⟨mid, hmid⟩ := h.above
  have hfr : (U.setTop g).frames = (.java g :: mid) ++ below := by rw [State.frames_setTop' g h.top, hmid]; rfl
  obtain ⟨o, s₂, hsteps, -, hend, hq⟩ := Steps.callFree hM p X.admits X.cas X.clock (acts := []) hfr happ hPc trivial
  have hq' : vx_Q Qc XC mc ms free a (U.calling g mk a) o s₂ := hq
  rw [State.frames_setTop' g h.top] at hend
  obtain ⟨g₀, hg0⟩ := Option.isSome_iff_exists.mp h.top
  obtain ⟨r, hr⟩ := State.topJava?_eq_some.mp hg0
  have hr' : (({ U with heap := s₂.heap, slotsUsed := s₂.slotsUsed } : State).setVm s₂.vm).frames = .java g₀ :: r := hr
  rcases hq' with ⟨hqc, L, hfe, hL⟩ | ⟨q, rfl, E, ce, L, hx, hce, hcv, hcl, hW₂, hsm, hL⟩
  · obtain ⟨⟨v, rfl⟩, hW₂, e2, q2, q3, q4, q5, q6⟩ := id hfe
    have e3 : s₂ = ({ (U.calling g mk a).setFrames s₂.frames with heap := s₂.heap, slotsUsed := s₂.slotsUsed } : State).setVm s₂.vm := by
      have : s₂ = ({ s₂ with vm := (U.calling g mk a).vm } : State).setVm s₂.vm := rfl
      rw [e2] at this
      exact this
    obtain ⟨c₂, i₂, len₂, hc₂, hd₂, hf₂⟩ := hend
    have hW' : U.WarmedH s₂.vm := hW₂
    have hcc : c₂ = c := by
      have h1 : s₂.code? g.method = U.code? g.method := by
        rw [State.code?_eq, State.code?_eq, hW'.alike.method?]
      exact Option.some.inj (hc₂.symm.trans (h1.trans h.code))
    subst hcc
    have hlen : len₂ = len := by rw [hdg] at hd₂; cases hd₂; rfl
    subst hlen
    have hs₂ : s₂ = (({ U with heap := s₂.heap, slotsUsed := s₂.slotsUsed } : State).setVm s₂.vm).setTop { g with pc := g.pc + len₂, stack := v.toList ++ g.stack } := by
      refine e3.trans ?_
      rw [hf₂, State.calling_eq h.top, State.setFrames_setFrames, State.setTop_of_frames _ hr', hr]
      rfl
    have hsame : U.sameButNew ({ U with heap := s₂.heap, slotsUsed := s₂.slotsUsed } : State) L mc ms := by
      refine ⟨?_, q2, q3, q4, q5, q6⟩
      obtain ⟨t, ht, -⟩ := State.frames_cons hr
      show ({ U with heap := s₂.heap, slotsUsed := s₂.slotsUsed } : State) = { U.setFrames U.frames with heap := s₂.heap, slotsUsed := s₂.slotsUsed }
      rw [State.setFrames_self ht]
    subst hg
    refine Or.inl ⟨v, ⟨(({ U with heap := s₂.heap, slotsUsed := s₂.slotsUsed } : State).setVm s₂.vm), Ls ++ L, c0 + mc, s0 + ms⟩,
      ⟨X.admits, X.cas, X.clock, X.frames, X.room, X.hears, X.method, X.code, (X.here.setHeapUsed s₂.heap s₂.slotsUsed).setVm hW'.alike, X.tail, State.WarmedH.trans X.warmed hW', X.limits, X.bytes, X.same.trans (hsame.setVm s.vm)⟩,
      ⟨g, mk, s₂, L, rfl, rfl, hqc, rfl, hL, rfl, rfl⟩, ?_⟩
    show Steps p.tables e below _ ((({ U with heap := s₂.heap, slotsUsed := s₂.slotsUsed } : State).setVm s₂.vm).setTop { g with pc := g.pc + len₂, stack := v.toList ++ g.stack })
    rw [← hs₂]
    exact hsteps
  · obtain ⟨e2, q2, q3, q4, q5, q6⟩ := id hsm
    have e3 : s₂ = ({ (U.calling g mk a).setFrames s₂.frames with heap := s₂.heap, slotsUsed := s₂.slotsUsed } : State).setVm s₂.vm := by
      have : s₂ = ({ s₂ with vm := (U.calling g mk a).vm } : State).setVm s₂.vm := rfl
      rw [e2] at this
      exact this
    have hf₂ : s₂.frames = .throwing q :: .java g :: U.frames.tail := hend
    have hW' : U.WarmedH s₂.vm := hW₂
    have hs₂ : s₂ = ((({ U with heap := s₂.heap, slotsUsed := s₂.slotsUsed } : State).setVm s₂.vm).setTop g).pushFrame (.throwing q) := by
      refine e3.trans ?_
      rw [hf₂, State.calling_eq h.top, State.setFrames_setFrames, State.pushFrame, State.frames_setTop _ hr', State.setTop_of_frames _ hr', State.setFrames_setFrames, hr]
      rfl
    have hsame : U.sameButNew ({ U with heap := s₂.heap, slotsUsed := s₂.slotsUsed } : State) L mc ms := by
      refine ⟨?_, q2, q3, q4, q5, q6⟩
      obtain ⟨t, ht, -⟩ := State.frames_cons hr
      show ({ U with heap := s₂.heap, slotsUsed := s₂.slotsUsed } : State) = { U.setFrames U.frames with heap := s₂.heap, slotsUsed := s₂.slotsUsed }
      rw [State.setFrames_self ht]
    subst hg
    refine Or.inr ⟨q, ⟨(({ U with heap := s₂.heap, slotsUsed := s₂.slotsUsed } : State).setVm s₂.vm), Ls ++ L, c0 + mc, s0 + ms⟩,
      ⟨X.admits, X.cas, X.clock, X.frames, X.room, X.hears, X.method, X.code, (X.here.setHeapUsed s₂.heap s₂.slotsUsed).setVm hW'.alike, X.tail, State.WarmedH.trans X.warmed hW', X.limits, X.bytes, X.same.trans (hsame.setVm s.vm)⟩,
      ⟨g, mk, s₂, L, E, ce, rfl, rfl, hx, hce, hcv, hcl, rfl, hL, rfl, rfl⟩, ?_⟩
    show Steps p.tables e below _ (((({ U with heap := s₂.heap, slotsUsed := s₂.slotsUsed } : State).setVm s₂.vm).setTop g).pushFrame (.throwing q))
    rw [← hs₂]
    exact hsteps
end Payer
section Calls
variable {p : Program} {l : Launch} {e : Env} {R : Room} {s : State} {m : MethodId} {args : Array Value} {below : List Frame} {meth : Method} {c : Code} {T : State} {locs : List Loc} {cells slots : Nat}
theorem vx_callV (X : Stand p l e R s m args below meth c T locs cells slots) (hexec : p.tables.exec = Jvm.exec) {own C : String} {index : Nat} {y : MethodName} {bytes : ByteArray} {maxL : Nat} {ret : Option FieldType}
    (hown : s.vm.findClass own = some m.cls) (hlink : (Cond.methodLink own index y).before args s = true) (hinst : (Cond.instanceMethod y).before args s = true) (hsel : (Cond.selects C y y).before args s = true)
    (hcode : (Cond.code y bytes maxL ret).before args s = true) (hy : y.cls ≠ "java/lang/invoke/MethodHandle" ∧ y.cls ≠ "java/lang/invoke/VarHandle")
    {W9 : Nat} {Pre : Pt → Array Value → Prop} {Post : Pt → Array Value → Option Value → Pt → Prop} {PostX : Pt → Array Value → Addr → Pt → Prop} (hK : vx_Back l R p e below s args y 3 W9 Pre Post PostX)
    {b : Addr} {cellB : Cell} (hcell : T.heap[b]? = some cellB) (hobj : cellB.vm.isStatics = false) (hcls : s.vm.findClass C = some cellB.cls)
    {g : JFrame} (hg : g.method = m) (hsize : g.locals.size = c.maxLocals) {argsL rest : List Value} (hlen : ∀ sig, parseMethodDescriptor y.desc = some sig → argsL.length = sig.parameters.length)
    (hstack : g.stack = argsL.reverse ++ .ref b :: rest) (hW : 2 * g.monitorRoom + (rest.map fun v => v.category).sum ≤ W9) (hdg : decode c.code g.pc = .ok (.invokevirtual index, 3))
    (hpre : ∀ vm₁, s.WarmedH vm₁ → Pre ⟨T.setVm vm₁, locs, cells, slots⟩ (Value.ref b :: argsL).toArray) :
    (∃ (v : Option Value) (vm₁ : Vm) (B : Pt), s.WarmedH vm₁ ∧ Stand p l e R s m args below meth c B.U B.locs B.cells B.slots ∧ Post ⟨T.setVm vm₁, locs, cells, slots⟩ (Value.ref b :: argsL).toArray v B ∧
      ∀ target, Steps p.tables e below (B.U.setTop { g with pc := g.pc + 3, stack := v.toList ++ rest }) target → Steps p.tables e below (T.setTop g) target) ∨
    (∃ (q : Addr) (vm₁ : Vm) (B : Pt), s.WarmedH vm₁ ∧ Stand p l e R s m args below meth c B.U B.locs B.cells B.slots ∧ PostX ⟨T.setVm vm₁, locs, cells, slots⟩ (Value.ref b :: argsL).toArray q B ∧
      Steps p.tables e below (T.setTop g) ((B.U.setTop { g with stack := rest }).pushFrame (.throwing q))) := by
  obtain ⟨mk, methM, hnamed, hmethM, hstM, habM⟩ := Cond.instanceMethod_spec hinst
  obtain ⟨methM', cM, hmethM', -, -, -, -, -, -, hsigM⟩ := Cond.code_spec hnamed hcode
  cases hmethM.symm.trans hmethM'
  obtain ⟨c2, r2, m2, q1, q2, q3, q4, kP, hkP, hkPi⟩ := Cond.selects_spec hsel
  cases hcls.symm.trans q1
  cases (State.methodFound?_of_named hnamed hy).symm.trans q2
  cases hnamed.symm.trans q3
  have hselP : selectMethod e.platform s.vm cellB.cls mk = .method mk := by rw [Launch.admits_selectMethod X.admits]; exact q4
  obtain ⟨vm₁, X₁, hstep₁⟩ := X.invokevirtual hexec hown hlink hnamed hmethM hstM hkP hkPi hy (a := b) (cell := cellB) hcell
    (fun z h => by rw [h] at hobj; cases hobj) hselP hmethM habM hkP hkPi (g := g) hg (argsL := argsL) (rest := rest) (hlen _ hsigM) hstack hdg
  rcases hK m meth c ⟨T.setVm vm₁, locs, cells, slots⟩ { g with stack := rest } (.invokevirtual index) mk (Value.ref b :: argsL).toArray X₁ hg hsize hdg hW (X₁.named hnamed) (hpre vm₁ X₁.warmed) with ⟨v, B, X', hpost, hsteps⟩ | ⟨q, B, X', hpost, hsteps⟩
  · exact Or.inl ⟨v, vm₁, B, X₁.warmed, X', hpost, fun target h => hstep₁ _ fun acts => by rw [doInvoke_state]; exact hsteps.trans h⟩
  · exact Or.inr ⟨q, vm₁, B, X₁.warmed, X', hpost, hstep₁ _ fun acts => by rw [doInvoke_state]; exact hsteps⟩
theorem vx_callS (X : Stand p l e R s m args below meth c T locs cells slots) (hexec : p.tables.exec = Jvm.exec) {own : String} {index : Nat} {y : MethodName} {bytes : ByteArray} {maxL : Nat} {ret : Option FieldType}
    (hown : s.vm.findClass own = some m.cls) (hlink : (Cond.methodLink own index y).before args s = true) (hstat : (Cond.static y).before args s = true) (hinit : (Cond.initialized y.cls).before args s = true)
    (hcode : (Cond.code y bytes maxL ret).before args s = true) (hy : y.cls ≠ "java/lang/invoke/MethodHandle" ∧ y.cls ≠ "java/lang/invoke/VarHandle")
    {W9 : Nat} {Pre : Pt → Array Value → Prop} {Post : Pt → Array Value → Option Value → Pt → Prop} {PostX : Pt → Array Value → Addr → Pt → Prop} (hK : vx_Back l R p e below s args y 3 W9 Pre Post PostX)
    {g : JFrame} (hg : g.method = m) (hsize : g.locals.size = c.maxLocals) {argsL rest : List Value} (hlen : ∀ sig, parseMethodDescriptor y.desc = some sig → argsL.length = sig.parameters.length)
    (hstack : g.stack = argsL.reverse ++ rest) (hW : 2 * g.monitorRoom + (rest.map fun v => v.category).sum ≤ W9) (hdg : decode c.code g.pc = .ok (.invokestatic index, 3))
    (hpre : ∀ vm₁, s.WarmedH vm₁ → Pre ⟨T.setVm vm₁, locs, cells, slots⟩ argsL.toArray) :
    (∃ (v : Option Value) (vm₁ : Vm) (B : Pt), s.WarmedH vm₁ ∧ Stand p l e R s m args below meth c B.U B.locs B.cells B.slots ∧ Post ⟨T.setVm vm₁, locs, cells, slots⟩ argsL.toArray v B ∧
      ∀ target, Steps p.tables e below (B.U.setTop { g with pc := g.pc + 3, stack := v.toList ++ rest }) target → Steps p.tables e below (T.setTop g) target) ∨
    (∃ (q : Addr) (vm₁ : Vm) (B : Pt), s.WarmedH vm₁ ∧ Stand p l e R s m args below meth c B.U B.locs B.cells B.slots ∧ PostX ⟨T.setVm vm₁, locs, cells, slots⟩ argsL.toArray q B ∧
      Steps p.tables e below (T.setTop g) ((B.U.setTop { g with stack := rest }).pushFrame (.throwing q))) := by
  obtain ⟨mk, hnamed⟩ := Cond.code_named hcode
  obtain ⟨methM, cM, hmethM, -, -, -, -, -, -, hsigM⟩ := Cond.code_spec hnamed hcode
  have hstatic : methM.isStatic = true := Cond.static_spec hnamed hmethM hstat
  obtain ⟨kP, hkP, -⟩ := className_of_methodNamed hnamed
  have hinitP : kP.init = .initialized := Cond.initialized_spec (findClass_of_methodNamed hnamed) hkP hinit
  obtain ⟨vm₁, X₁, hstep₁⟩ := X.invokestatic hexec hown hlink hnamed hmethM hstatic hkP hinitP hy (g := g) hg (argsL := argsL) (rest := rest) (hlen _ hsigM) hstack hdg
  rcases hK m meth c ⟨T.setVm vm₁, locs, cells, slots⟩ { g with stack := rest } (.invokestatic index) mk argsL.toArray X₁ hg hsize hdg hW (X₁.named hnamed) (hpre vm₁ X₁.warmed) with ⟨v, B, X', hpost, hsteps⟩ | ⟨q, B, X', hpost, hsteps⟩
  · exact Or.inl ⟨v, vm₁, B, X₁.warmed, X', hpost, fun target h => hstep₁ _ fun acts => by rw [doInvoke_state]; exact hsteps.trans h⟩
  · exact Or.inr ⟨q, vm₁, B, X₁.warmed, X', hpost, hstep₁ _ fun acts => by rw [doInvoke_state]; exact hsteps⟩
end Calls
theorem vx_cls {s : State} {T : State} {vm₁ : Vm} {E : String} {k : ClassId} (hW : s.WarmedH vm₁) (h : (T.setVm vm₁).vm.findClass E = some k) : s.vm.findClass E = some k := by
  have h1 : vm₁.findClass E = some k := h
  rw [hW.alike.findClass] at h1
  exact h1
/-- the method's frame g, with q thrown over it -/
def vx_W (p : Program) (l : Launch) (e : Env) (R : Room) (s : State) (m : MethodId) (args : Array Value) (below : List Frame) (meth : Method) (c : Code) (H : Heap) (locs : List Loc) (cells slots : Nat) (Q : State → Prop) (g : JFrame) (q : Addr) : Prop :=
  ∀ T : State, T.heap = H → Stand p l e R s m args below meth c T locs cells slots → ∃ t, Steps p.tables e below ((T.setTop g).pushFrame (.throwing q)) t ∧ Q t
def vx_Run (p : Program) (l : Launch) (e : Env) (R : Room) (s : State) (m : MethodId) (args : Array Value) (below : List Frame) (meth : Method) (c : Code) (H : Heap) (locs : List Loc) (cells slots mc ms : Nat) (g : JFrame) (rest : List Value) (Qa : State → Outcome → State → Prop) (XC : String → State → State → Prop) (free : Addr → Prop) : Prop :=
  ∀ T : State, T.heap = H → Stand p l e R s m args below meth c T locs cells slots →
    (∃ (v : Option Value) (st₀ t T' : State) (L : List Loc), st₀.heap = H ∧ Stand p l e R s m args below meth c T' (locs ++ L) (cells + mc) (slots + ms) ∧ (∀ q ∈ L, free q.base) ∧ T'.heap = t.heap ∧ T'.vm = t.vm ∧ Qa st₀ (.returned v) t ∧
      Goes p e below T g T' { g with pc := g.pc + 3, stack := v.toList ++ rest }) ∨
    (∃ (q : Addr) (st₀ t T' : State) (L : List Loc) (E : String) (ce : Cell), st₀.heap = H ∧ Stand p l e R s m args below meth c T' (locs ++ L) (cells + mc) (slots + ms) ∧ (∀ z ∈ L, free z.base) ∧ T'.heap = t.heap ∧ T'.vm = t.vm ∧ XC E st₀ t ∧ t.heap[q]? = some ce ∧ ce.vm = .none ∧ s.vm.findClass E = some ce.cls ∧
      Steps p.tables e below (T.setTop g) ((T'.setTop { g with stack := rest }).pushFrame (.throwing q)))
def vx_X {S : Type} (px : S → Prop) (B : String → S → State → Prop) (A : Nat → Prop) : String → State → State → Prop := fun E st t => ∃ u : S, px u ∧ B E u t ∧ va_F A st t
section Runs
variable {p : Program} {l : Launch} {e : Env} {R : Room} {s : State} {m : MethodId} {args : Array Value} {below : List Frame} {meth : Method} {c : Code} {H : Heap} {locs : List Loc} {cells slots : Nat}
variable {y : MethodName} {bytes cc : ByteArray} {maxL nL mc ms n index : Nat} {ret : Option FieldType} {ws : List Cond} {rm : Room} {Pc : Array Value → State → Prop} {Qc : Array Value → State → Outcome → State → Prop} {XC : String → State → State → Prop} {free : Addr → Prop} {Ts : List Cond} {own C : String} {b : Addr} {As rest : List Value} {g : JFrame}
theorem vx_callBack (cb : CallB R s args own index y bytes maxL ret ws rm mc ms n) (hM : vx_Met l y ws rm Pc Qc XC mc ms free) (hbl : FrameBlind Pc) : vx_Back l R p e below s args y 3 8 (PreOf R mc ms Pc) (PostOf Qc mc ms free) (vx_Post XC mc ms free) := by
  obtain ⟨hrc, hrs, hfr, hlo, hws, hcw, -, hini, -⟩ := cb
  exact vx_back (bytes := bytes) (maxL := maxL) (ret := ret) hM hbl hrc hrs hfr hlo hws hcw (fun a' U hW => word_at hW (Or.inl (by first | rfl | simp [Cond.onTables, Cond.keeps, Cond.steady])) hini)
theorem vx_runV (S : CallFix p m c cc nL s args Ts own) (hM : vx_Met l y ws rm Pc Qc XC mc ms free) (cw : CallW R s args own C index y bytes maxL ret ws rm mc ms n) (hp : PreV s H C b Pc As)
    (hg : g.method = m) (hn : As.length = n) (hsize : g.locals.size = nL) (hstack : g.stack = As.reverse ++ .ref b :: rest) (hW : 2 * g.monitorRoom + (rest.map fun v => v.category).sum ≤ 8) (hdg : decode cc g.pc = .ok (.invokevirtual index, 3)) (hf : cells + mc ≤ R.cells ∧ slots + ms ≤ R.slots) :
    vx_Run p l e R s m args below meth c H locs cells slots mc ms g rest (Qc (Value.ref b :: As).toArray) XC free := by
  have hK : vx_Back l R p e below s args y 3 8 (PreOf R mc ms Pc) (PostOf Qc mc ms free) (vx_Post XC mc ms free) := vx_callBack cw.1 hM hp.1
  obtain ⟨⟨-, -, -, -, -, -, hcode, -, hy, hlen, hl⟩, hin, hse⟩ := cw
  obtain ⟨hx, hb, hml, ho, -⟩ := S
  obtain ⟨-, ⟨cellB, hcB, hoB, hclB⟩, hPc⟩ := hp
  intro T hT X
  rcases vx_callV X hx (C := C) (bytes := bytes) (maxL := maxL) (ret := ret) ho hl hin hse hcode hy hK (by rw [hT]; exact hcB) hoB hclB hg (hsize.trans hml.symm) (argsL := As) (rest := rest) (fun sig h => hn.trans (hlen sig h)) hstack hW (by rw [hb]; exact hdg)
    (fun vm₁ hW₁ => ⟨hf.1, hf.2, hPc (T.setVm vm₁) hT hW₁⟩) with ⟨v, vm₁, ⟨U', l2, c2, s2⟩, hW₁, X', ⟨g', mk, t, L, e1, e2, hq, h1, hL, h2, h3⟩, st⟩ | ⟨q, vm₁, ⟨U', l2, c2, s2⟩, hW₁, X', ⟨g', mk, t, L, E, ce, e1, e2, hq, hce, hcv, hcl, h1, hL, h2, h3⟩, st⟩
  · dsimp only [Pt.U, Pt.locs, Pt.cells, Pt.slots] at X' e1 e2 h1 h2 h3 st
    subst h1; subst h2; subst h3
    exact Or.inl ⟨v, (T.setVm vm₁).calling g' mk (Value.ref b :: As).toArray, t, U', L, hT, X', hL, e1, e2, hq, st⟩
  · dsimp only [Pt.U, Pt.locs, Pt.cells, Pt.slots] at X' e1 e2 h1 h2 h3 st hcl
    subst h1; subst h2; subst h3
    exact Or.inr ⟨q, (T.setVm vm₁).calling g' mk (Value.ref b :: As).toArray, t, U', L, E, ce, hT, X', hL, e1, e2, hq, hce, hcv, vx_cls hW₁ hcl, st⟩
theorem vx_runS (S : CallFix p m c cc nL s args Ts own) (hM : vx_Met l y ws rm Pc Qc XC mc ms free) (cw : CallB R s args own index y bytes maxL ret ws rm mc ms n ∧ (Cond.static y).before args s = true) (hp : PreS s H Pc As)
    (hg : g.method = m) (hn : As.length = n) (hsize : g.locals.size = nL) (hstack : g.stack = As.reverse ++ rest) (hW : 2 * g.monitorRoom + (rest.map fun v => v.category).sum ≤ 8) (hdg : decode cc g.pc = .ok (.invokestatic index, 3)) (hf : cells + mc ≤ R.cells ∧ slots + ms ≤ R.slots) :
    vx_Run p l e R s m args below meth c H locs cells slots mc ms g rest (Qc As.toArray) XC free := by
  have hK : vx_Back l R p e below s args y 3 8 (PreOf R mc ms Pc) (PostOf Qc mc ms free) (vx_Post XC mc ms free) := vx_callBack cw.1 hM hp.1
  obtain ⟨⟨-, -, -, -, -, -, hcode, hini, hy, hlen, hl⟩, hstt⟩ := cw
  obtain ⟨hx, hb, hml, ho, -⟩ := S
  intro T hT X
  rcases vx_callS X hx (bytes := bytes) (maxL := maxL) (ret := ret) ho hl hstt hini hcode hy hK hg (hsize.trans hml.symm) (argsL := As) (rest := rest) (fun sig h => hn.trans (hlen sig h)) hstack hW (by rw [hb]; exact hdg)
    (fun vm₁ hW₁ => ⟨hf.1, hf.2, hp.2 (T.setVm vm₁) hT hW₁⟩) with ⟨v, vm₁, ⟨U', l2, c2, s2⟩, hW₁, X', ⟨g', mk, t, L, e1, e2, hq, h1, hL, h2, h3⟩, st⟩ | ⟨q, vm₁, ⟨U', l2, c2, s2⟩, hW₁, X', ⟨g', mk, t, L, E, ce, e1, e2, hq, hce, hcv, hcl, h1, hL, h2, h3⟩, st⟩
  · dsimp only [Pt.U, Pt.locs, Pt.cells, Pt.slots] at X' e1 e2 h1 h2 h3 st
    subst h1; subst h2; subst h3
    exact Or.inl ⟨v, (T.setVm vm₁).calling g' mk As.toArray, t, U', L, hT, X', hL, e1, e2, hq, st⟩
  · dsimp only [Pt.U, Pt.locs, Pt.cells, Pt.slots] at X' e1 e2 h1 h2 h3 st hcl
    subst h1; subst h2; subst h3
    exact Or.inr ⟨q, (T.setVm vm₁).calling g' mk As.toArray, t, U', L, E, ce, hT, X', hL, e1, e2, hq, hce, hcv, vx_cls hW₁ hcl, st⟩
end Runs
section Rows
variable {p : Program} {l : Launch} {e : Env} {R : Room} {s : State} {m : MethodId} {args : Array Value} {below : List Frame} {meth : Method} {c : Code} {H : Heap} {locs : List Loc} {cells slots : Nat} {Q : State → Prop}
variable {mc ms : Nat} {free : Addr → Prop} {A0 A1 : Nat → Prop} {H0 : Heap} {a : Array Value} {pc : Nat} {ls : Array Slot} {st0 rest : List Value}
theorem vx_keep {st₀ t T' : State} {L : List Loc} (h0 : st₀.heap = H) (e1 : T'.heap = t.heap) (hS : va_S A0 H0 H locs) (hA : ∀ q, q < H.size → A1 q → A0 q) (hf : ∀ q, free q → A0 q) (hL : ∀ q ∈ L, free q.base) (hF : va_F A1 st₀ t) :
    H.size ≤ T'.heap.size ∧ (∀ q : Nat, q < H.size → ¬ A1 q → T'.heap[q]? = H[q]?) ∧ va_S A0 H0 T'.heap (locs ++ L) := by
  obtain ⟨hz, hk⟩ := hF
  rw [h0] at hz hk
  exact ⟨by rw [e1]; exact hz, fun q h1 h2 => by rw [e1]; exact hk q h1 h2,
    ⟨Nat.le_trans hS.1 (by rw [e1]; exact hz), fun q h1 h2 => by rw [e1, hk q (Nat.lt_of_lt_of_le h1 hS.1) (fun z => h2 (hA q (Nat.lt_of_lt_of_le h1 hS.1) z))]; exact hS.2.1 q h1 h2, fun q hq => by
      rcases List.mem_append.mp hq with h | h
      · exact hS.2.2 q h
      · exact hf _ (hL q h)⟩⟩
theorem vx_calli {S SX : Type} {post : Int32 → S → Prop} {px : SX → Prop} {B : S → State → Prop} {BX : String → SX → State → Prop} {AX : Nat → Prop} (hr : vx_Run p l e R s m args below meth c H locs cells slots mc ms (F0 m pc ls st0) rest (va_Qi post B A1 a) (vx_X px BX AX) free) (hS : va_S A0 H0 H locs) (hA : ∀ q, q < H.size → A1 q → A0 q) (hf : ∀ q, free q → A0 q) (hAX : ∀ q, q < H.size → AX q → A0 q)
    (kx : ∀ (E : String) (ce : Cell) (q9 : Addr) (u : SX) (t : State) (H1 : Heap) (locs1 : List Loc), t.heap = H1 → s.vm.Alike t.vm → px u → BX E u t → H.size ≤ H1.size → (∀ q : Nat, q < H.size → ¬ AX q → H1[q]? = H[q]?) → va_S A0 H0 H1 locs1 → H1[q9]? = some ce → ce.vm = .none → s.vm.findClass E = some ce.cls → vx_W p l e R s m args below meth c H1 locs1 (cells + mc) (slots + ms) Q (F0 m pc ls rest) q9)
    (kk : ∀ (r : Int32) (u : S) (t : State) (H1 : Heap) (locs1 : List Loc), t.heap = H1 → s.vm.Alike t.vm → post r u → B u t → H.size ≤ H1.size → (∀ q : Nat, q < H.size → ¬ A1 q → H1[q]? = H[q]?) → va_S A0 H0 H1 locs1 → W p l e R s m args below meth c H1 locs1 (cells + mc) (slots + ms) Q (F0 m (pc + 3) ls (.int r :: rest))) : W p l e R s m args below meth c H locs cells slots Q (F0 m pc ls st0) := by
  intro T hT X
  rcases hr T hT X with ⟨v, st₀, t, T', L, h0, X', hL, e1, e2, ⟨⟨r, u, hv, hp, hb⟩, hF⟩, st⟩ | ⟨q, st₀, t, T', L, E, ce, h0, X', hL, e1, e2, ⟨u, hp, hb, hF⟩, hce, hcv, hcl, st⟩
  · cases hv
    obtain ⟨k1, k2, k3⟩ := vx_keep h0 e1 hS hA hf hL hF
    obtain ⟨t2, a1, b1⟩ := kk r u t T'.heap (locs ++ L) e1.symm (by rw [← e2]; exact X'.warmed.alike) hp hb k1 k2 k3 T' rfl X'
    exact ⟨t2, st t2 a1, b1⟩
  · obtain ⟨k1, k2, k3⟩ := vx_keep h0 e1 hS hAX hf hL hF
    obtain ⟨t2, a1, b1⟩ := kx E ce q u t T'.heap (locs ++ L) e1.symm (by rw [← e2]; exact X'.warmed.alike) hp hb k1 k2 k3 (by rw [e1]; exact hce) hcv hcl T' rfl X'
    exact ⟨t2, st.trans a1, b1⟩
theorem vx_calll {S SX : Type} {post : Int64 → S → Prop} {px : SX → Prop} {B : S → State → Prop} {BX : String → SX → State → Prop} {AX : Nat → Prop} (hr : vx_Run p l e R s m args below meth c H locs cells slots mc ms (F0 m pc ls st0) rest (va_Ql post B A1 a) (vx_X px BX AX) free) (hS : va_S A0 H0 H locs) (hA : ∀ q, q < H.size → A1 q → A0 q) (hf : ∀ q, free q → A0 q) (hAX : ∀ q, q < H.size → AX q → A0 q)
    (kx : ∀ (E : String) (ce : Cell) (q9 : Addr) (u : SX) (t : State) (H1 : Heap) (locs1 : List Loc), t.heap = H1 → s.vm.Alike t.vm → px u → BX E u t → H.size ≤ H1.size → (∀ q : Nat, q < H.size → ¬ AX q → H1[q]? = H[q]?) → va_S A0 H0 H1 locs1 → H1[q9]? = some ce → ce.vm = .none → s.vm.findClass E = some ce.cls → vx_W p l e R s m args below meth c H1 locs1 (cells + mc) (slots + ms) Q (F0 m pc ls rest) q9)
    (kk : ∀ (r : Int64) (u : S) (t : State) (H1 : Heap) (locs1 : List Loc), t.heap = H1 → s.vm.Alike t.vm → post r u → B u t → H.size ≤ H1.size → (∀ q : Nat, q < H.size → ¬ A1 q → H1[q]? = H[q]?) → va_S A0 H0 H1 locs1 → W p l e R s m args below meth c H1 locs1 (cells + mc) (slots + ms) Q (F0 m (pc + 3) ls (.long r :: rest))) : W p l e R s m args below meth c H locs cells slots Q (F0 m pc ls st0) := by
  intro T hT X
  rcases hr T hT X with ⟨v, st₀, t, T', L, h0, X', hL, e1, e2, ⟨⟨r, u, hv, hp, hb⟩, hF⟩, st⟩ | ⟨q, st₀, t, T', L, E, ce, h0, X', hL, e1, e2, ⟨u, hp, hb, hF⟩, hce, hcv, hcl, st⟩
  · cases hv
    obtain ⟨k1, k2, k3⟩ := vx_keep h0 e1 hS hA hf hL hF
    obtain ⟨t2, a1, b1⟩ := kk r u t T'.heap (locs ++ L) e1.symm (by rw [← e2]; exact X'.warmed.alike) hp hb k1 k2 k3 T' rfl X'
    exact ⟨t2, st t2 a1, b1⟩
  · obtain ⟨k1, k2, k3⟩ := vx_keep h0 e1 hS hAX hf hL hF
    obtain ⟨t2, a1, b1⟩ := kx E ce q u t T'.heap (locs ++ L) e1.symm (by rw [← e2]; exact X'.warmed.alike) hp hb k1 k2 k3 (by rw [e1]; exact hce) hcv hcl T' rfl X'
    exact ⟨t2, st.trans a1, b1⟩
theorem vx_callf {S SX : Type} {post : UInt32 → S → Prop} {px : SX → Prop} {B : S → State → Prop} {BX : String → SX → State → Prop} {AX : Nat → Prop} (hr : vx_Run p l e R s m args below meth c H locs cells slots mc ms (F0 m pc ls st0) rest (va_Qf post B A1 a) (vx_X px BX AX) free) (hS : va_S A0 H0 H locs) (hA : ∀ q, q < H.size → A1 q → A0 q) (hf : ∀ q, free q → A0 q) (hAX : ∀ q, q < H.size → AX q → A0 q)
    (kx : ∀ (E : String) (ce : Cell) (q9 : Addr) (u : SX) (t : State) (H1 : Heap) (locs1 : List Loc), t.heap = H1 → s.vm.Alike t.vm → px u → BX E u t → H.size ≤ H1.size → (∀ q : Nat, q < H.size → ¬ AX q → H1[q]? = H[q]?) → va_S A0 H0 H1 locs1 → H1[q9]? = some ce → ce.vm = .none → s.vm.findClass E = some ce.cls → vx_W p l e R s m args below meth c H1 locs1 (cells + mc) (slots + ms) Q (F0 m pc ls rest) q9)
    (kk : ∀ (r : UInt32) (u : S) (t : State) (H1 : Heap) (locs1 : List Loc), t.heap = H1 → s.vm.Alike t.vm → post r u → B u t → H.size ≤ H1.size → (∀ q : Nat, q < H.size → ¬ A1 q → H1[q]? = H[q]?) → va_S A0 H0 H1 locs1 → W p l e R s m args below meth c H1 locs1 (cells + mc) (slots + ms) Q (F0 m (pc + 3) ls (.float r :: rest))) : W p l e R s m args below meth c H locs cells slots Q (F0 m pc ls st0) := by
  intro T hT X
  rcases hr T hT X with ⟨v, st₀, t, T', L, h0, X', hL, e1, e2, ⟨⟨r, u, hv, hp, hb⟩, hF⟩, st⟩ | ⟨q, st₀, t, T', L, E, ce, h0, X', hL, e1, e2, ⟨u, hp, hb, hF⟩, hce, hcv, hcl, st⟩
  · cases hv
    obtain ⟨k1, k2, k3⟩ := vx_keep h0 e1 hS hA hf hL hF
    obtain ⟨t2, a1, b1⟩ := kk r u t T'.heap (locs ++ L) e1.symm (by rw [← e2]; exact X'.warmed.alike) hp hb k1 k2 k3 T' rfl X'
    exact ⟨t2, st t2 a1, b1⟩
  · obtain ⟨k1, k2, k3⟩ := vx_keep h0 e1 hS hAX hf hL hF
    obtain ⟨t2, a1, b1⟩ := kx E ce q u t T'.heap (locs ++ L) e1.symm (by rw [← e2]; exact X'.warmed.alike) hp hb k1 k2 k3 (by rw [e1]; exact hce) hcv hcl T' rfl X'
    exact ⟨t2, st.trans a1, b1⟩
theorem vx_calld {S SX : Type} {post : UInt64 → S → Prop} {px : SX → Prop} {B : S → State → Prop} {BX : String → SX → State → Prop} {AX : Nat → Prop} (hr : vx_Run p l e R s m args below meth c H locs cells slots mc ms (F0 m pc ls st0) rest (va_Qd post B A1 a) (vx_X px BX AX) free) (hS : va_S A0 H0 H locs) (hA : ∀ q, q < H.size → A1 q → A0 q) (hf : ∀ q, free q → A0 q) (hAX : ∀ q, q < H.size → AX q → A0 q)
    (kx : ∀ (E : String) (ce : Cell) (q9 : Addr) (u : SX) (t : State) (H1 : Heap) (locs1 : List Loc), t.heap = H1 → s.vm.Alike t.vm → px u → BX E u t → H.size ≤ H1.size → (∀ q : Nat, q < H.size → ¬ AX q → H1[q]? = H[q]?) → va_S A0 H0 H1 locs1 → H1[q9]? = some ce → ce.vm = .none → s.vm.findClass E = some ce.cls → vx_W p l e R s m args below meth c H1 locs1 (cells + mc) (slots + ms) Q (F0 m pc ls rest) q9)
    (kk : ∀ (r : UInt64) (u : S) (t : State) (H1 : Heap) (locs1 : List Loc), t.heap = H1 → s.vm.Alike t.vm → post r u → B u t → H.size ≤ H1.size → (∀ q : Nat, q < H.size → ¬ A1 q → H1[q]? = H[q]?) → va_S A0 H0 H1 locs1 → W p l e R s m args below meth c H1 locs1 (cells + mc) (slots + ms) Q (F0 m (pc + 3) ls (.double r :: rest))) : W p l e R s m args below meth c H locs cells slots Q (F0 m pc ls st0) := by
  intro T hT X
  rcases hr T hT X with ⟨v, st₀, t, T', L, h0, X', hL, e1, e2, ⟨⟨r, u, hv, hp, hb⟩, hF⟩, st⟩ | ⟨q, st₀, t, T', L, E, ce, h0, X', hL, e1, e2, ⟨u, hp, hb, hF⟩, hce, hcv, hcl, st⟩
  · cases hv
    obtain ⟨k1, k2, k3⟩ := vx_keep h0 e1 hS hA hf hL hF
    obtain ⟨t2, a1, b1⟩ := kk r u t T'.heap (locs ++ L) e1.symm (by rw [← e2]; exact X'.warmed.alike) hp hb k1 k2 k3 T' rfl X'
    exact ⟨t2, st t2 a1, b1⟩
  · obtain ⟨k1, k2, k3⟩ := vx_keep h0 e1 hS hAX hf hL hF
    obtain ⟨t2, a1, b1⟩ := kx E ce q u t T'.heap (locs ++ L) e1.symm (by rw [← e2]; exact X'.warmed.alike) hp hb k1 k2 k3 (by rw [e1]; exact hce) hcv hcl T' rfl X'
    exact ⟨t2, st.trans a1, b1⟩
theorem vx_callv {S SX : Type} {post : S → Prop} {px : SX → Prop} {B : S → State → Prop} {BX : String → SX → State → Prop} {AX : Nat → Prop} (hr : vx_Run p l e R s m args below meth c H locs cells slots mc ms (F0 m pc ls st0) rest (va_Qv post B A1 a) (vx_X px BX AX) free) (hS : va_S A0 H0 H locs) (hA : ∀ q, q < H.size → A1 q → A0 q) (hf : ∀ q, free q → A0 q) (hAX : ∀ q, q < H.size → AX q → A0 q)
    (kx : ∀ (E : String) (ce : Cell) (q9 : Addr) (u : SX) (t : State) (H1 : Heap) (locs1 : List Loc), t.heap = H1 → s.vm.Alike t.vm → px u → BX E u t → H.size ≤ H1.size → (∀ q : Nat, q < H.size → ¬ AX q → H1[q]? = H[q]?) → va_S A0 H0 H1 locs1 → H1[q9]? = some ce → ce.vm = .none → s.vm.findClass E = some ce.cls → vx_W p l e R s m args below meth c H1 locs1 (cells + mc) (slots + ms) Q (F0 m pc ls rest) q9)
    (kk : ∀ (u : S) (t : State) (H1 : Heap) (locs1 : List Loc), t.heap = H1 → s.vm.Alike t.vm → post u → B u t → H.size ≤ H1.size → (∀ q : Nat, q < H.size → ¬ A1 q → H1[q]? = H[q]?) → va_S A0 H0 H1 locs1 → W p l e R s m args below meth c H1 locs1 (cells + mc) (slots + ms) Q (F0 m (pc + 3) ls (rest))) : W p l e R s m args below meth c H locs cells slots Q (F0 m pc ls st0) := by
  intro T hT X
  rcases hr T hT X with ⟨v, st₀, t, T', L, h0, X', hL, e1, e2, ⟨⟨u, hv, hp, hb⟩, hF⟩, st⟩ | ⟨q, st₀, t, T', L, E, ce, h0, X', hL, e1, e2, ⟨u, hp, hb, hF⟩, hce, hcv, hcl, st⟩
  · cases hv
    obtain ⟨k1, k2, k3⟩ := vx_keep h0 e1 hS hA hf hL hF
    obtain ⟨t2, a1, b1⟩ := kk u t T'.heap (locs ++ L) e1.symm (by rw [← e2]; exact X'.warmed.alike) hp hb k1 k2 k3 T' rfl X'
    exact ⟨t2, st t2 a1, b1⟩
  · obtain ⟨k1, k2, k3⟩ := vx_keep h0 e1 hS hAX hf hL hF
    obtain ⟨t2, a1, b1⟩ := kx E ce q u t T'.heap (locs ++ L) e1.symm (by rw [← e2]; exact X'.warmed.alike) hp hb k1 k2 k3 (by rw [e1]; exact hce) hcv hcl T' rfl X'
    exact ⟨t2, st.trans a1, b1⟩
/-- caught by the row x of this method's table; the rows ahead don't take it -/
theorem vx_catch {own name : String} {E : String} {ce : Cell} {q : Addr} (hown : s.vm.findClass own = some m.cls) (pre : List ExceptionTableEntry) (x : ExceptionTableEntry) (suf : List ExceptionTableEntry) (hsplit : c.exceptionTable.toList = pre ++ x :: suf)
    (hpass : ∀ z ∈ pre, covers z pc = false ∨ (z.catchType ≠ 0 ∧ ∃ nm : String, (Cond.classLink own z.catchType nm).before args s = true ∧ va_Nc E nm s)) (hx : covers x pc = true) (h0 : x.catchType ≠ 0)
    (hlink : (Cond.classLink own x.catchType name).before args s = true) (hcast : (Cond.castable E name).before args s = true) (hcell : H[q]? = some ce) (hv : ce.vm = .none) (hcl : s.vm.findClass E = some ce.cls)
    (kk : W p l e R s m args below meth c H locs cells slots Q (F0 m x.handlerPc ls [.ref q])) : vx_W p l e R s m args below meth c H locs cells slots Q (F0 m pc ls rest) q := by
  intro T hT X
  have hpl : e.platform.magicAccessors = ({} : Platform).magicAccessors := by rw [X.admits.platform]
  obtain ⟨c3, c4, hc3, hc4, hasg⟩ := Cond.castable_spec hcast
  cases Option.some.inj (hc3.symm.trans hcl)
  obtain ⟨c5, hc5, hcl5⟩ := Cond.classLink_spec hown hlink e.platform hpl
  cases Option.some.inj (hc4.symm.trans hc5)
  obtain ⟨vm', X', st⟩ := X.thenCaughtThrough q (g := F0 m pc ls rest) rfl (Steps.refl _) (by rw [hT]; exact hcell) (by rw [hv]; rfl) (by obtain ⟨k9, h9, -⟩ := Vm.findClass_spec hcl; exact ⟨k9, h9⟩) pre x suf hsplit
    (fun z hz => by
      rcases hpass z hz with h | ⟨hz0, nm, hl1, hn1⟩
      · exact Or.inl h
      · obtain ⟨c6, hc6, hcl6⟩ := Cond.classLink_spec hown hl1 e.platform hpl
        obtain ⟨a8, b8, h1, h2, h3⟩ := hn1
        cases Option.some.inj (h1.symm.trans hcl)
        cases Option.some.inj (h2.symm.trans hc6)
        exact Or.inr ⟨hz0, _, hcl6, h3⟩) hx (Or.inr ⟨h0, c4, hcl5, hasg⟩)
  obtain ⟨t, a1, b1⟩ := kk (T.setVm vm') hT X'
  exact ⟨t, st.trans a1, b1⟩
end Rows
section Ends
variable {p : Program} {l : Launch} {e : Env} {R : Room} {s : State} {m : MethodId} {args : Array Value} {below : List Frame} {meth : Method} {c : Code} {H : Heap} {locs : List Loc} {cells slots : Nat} {Q : State → Prop}
variable {mc ms : Nat} {free : Addr → Prop} {A0 A1 : Nat → Prop} {H0 : Heap} {a : Array Value} {ls : Array Slot} {st0 rest : List Value}
variable {Qc : Array Value → State → Outcome → State → Prop} {XC : String → State → State → Prop}
/-- what a body that may throw owes at its end -/
def vx_MQ (below : List Frame) (Qc : Array Value → State → Outcome → State → Prop) (XC : String → State → State → Prop) (a : Array Value) (s : State) (mc ms : Nat) (free : Addr → Prop) : State → Prop := fun t =>
  ∃ o, t.status = .running ∧ Ended t below o ∧ vx_Q Qc XC mc ms free a s o t
theorem vx_ret {g : JFrame} {mc ms : Nat} (k : W p l e R s m args below meth c H locs cells slots (MQ below Qc args s mc ms free) g) : W p l e R s m args below meth c H locs cells slots (vx_MQ below Qc XC args s mc ms free) g := by
  intro T hT X
  obtain ⟨t, a1, o, b1, b2, b3, b4⟩ := k T hT X
  exact ⟨t, a1, o, b1, b2, Or.inl ⟨b3, b4⟩⟩
/-- not caught here: it goes on to the caller -/
theorem vx_widen {g : JFrame} {q : Addr} {k n : Nat} (h1 : cells ≤ k) (h2 : slots ≤ n) (kk : vx_W p l e R s m args below meth c H locs k n Q g q) : vx_W p l e R s m args below meth c H locs cells slots Q g q := fun T hT X => kk T hT (stand_widen X h1 h2)
theorem vx_out {pc : Nat} {E : String} {ce : Cell} {q : Addr} {mc ms : Nat} (hout : ∀ x ∈ c.exceptionTable.toList, covers x pc = false) (hlocks : meth.locks = false) (hcell : H[q]? = some ce) (hv : ce.vm = .none) (hcl : s.vm.findClass E = some ce.cls)
    (hx : ∀ t : State, t.heap = H → s.vm.Alike t.vm → XC E s t) (hf : ∀ z ∈ locs, free z.base) (hc : cells ≤ mc) (hs : slots ≤ ms) :
    vx_W p l e R s m args below meth c H locs cells slots (vx_MQ below Qc XC args s mc ms free) (F0 m pc ls rest) q := by
  intro T hT X
  obtain ⟨st1, hrun, hend, hW, hsm⟩ := X.leaveThrown q (g := F0 m pc ls rest) rfl rfl rfl hout hlocks
  have hcell9 : (T.setFrames (.throwing q :: below)).heap[q]? = some ce := by
    show T.heap[q]? = some ce
    rw [hT]; exact hcell
  exact ⟨_, st1, .threw q, hrun, hend, Or.inr ⟨q, rfl, E, ce, locs, hx _ hT hW.alike, hcell9, hv, hcl, hW, hsm.mono hc hs, hf⟩⟩
theorem vx_frame {U : State} {k n : Nat} (h : s.sameButNew ({ U with vm := s.vm } : State) locs k n) : s.heap.size ≤ U.heap.size ∧ ∀ q : Nat, q < s.heap.size → (∀ z ∈ locs, z.base ≠ q) → U.heap[q]? = s.heap[q]? := by
  obtain ⟨-, h2, -, -, -, h6⟩ := h
  refine ⟨h2, fun q hq hz => ?_⟩
  obtain ⟨c9, e1, e2, e3, e4⟩ := h6 q _ (Array.getElem?_eq_getElem hq)
  have hs : c9.slots = (s.heap[q]).slots := Array.ext_getElem? fun i => e4 i fun hm => hz _ hm rfl
  have h9 : c9 = s.heap[q] := by
    rw [hs] at e2
    exact e2
  have e5 : U.heap[q]? = some c9 := e1
  rw [e5, h9, Array.getElem?_eq_getElem hq]
/-- the words of a throw but the four that speak of the heap -/
def vx_no (w : Cond) : Bool := decide (w ≠ .isRef (.static Bundle.tN "UNASSIGNED_STACK" Bundle.steD)) && decide (w ≠ .isRef (.static Bundle.tN "SUPPRESSED_SENTINEL" Bundle.listD)) && decide (w ≠ .laysStatic Bundle.tN "UNASSIGNED_STACK" Bundle.steD) && decide (w ≠ .laysStatic Bundle.tN "SUPPRESSED_SENTINEL" Bundle.listD)
def vx_at0 (own : String) (ic : Nat) (X : String) (names : List String) : List Cond := (Bundle.ownAtoms0 own ic X names).filter vx_no
def vx_atS (own : String) (ic : Nat) (X : String) (names : List String) : List Cond := (Bundle.ownAtoms own ic X names).filter vx_no
/-- a word that the tables alone decide, or a good one -/
def vx_ot (w : Cond) : Bool := w.onTables || goodWord w
theorem vx_ot_at {args a' : Array Value} {s U : State} {w : Cond} (hW : s.WarmedH U.vm) (hvm : s.vm = U.vm) (hg : vx_ot w = true) (h : w.before args s = true) : w.before a' U = true := by
  simp only [vx_ot, Bool.or_eq_true] at hg
  rcases hg with hg | hg
  · exact va_tabs hg hvm h
  · exact word_at hW (good_of_word hg) h
/-- a list's words: the good ones out of the method's own list, the others by premises of their own -/
theorem vx_hat {args : Array Value} {s : State} {L B : List Cond} (h1 : ∀ w ∈ L.filter goodWord, w.before args s = true) (h2 : ∀ w ∈ L.filter (fun w => !goodWord w), w ∈ B) (h3 : ∀ w ∈ B, w.before args s = true) : ∀ w ∈ L, w.before args s = true := by
  intro w hw
  by_cases g : goodWord w = true
  · exact h1 w (List.mem_filter.mpr ⟨hw, g⟩)
  · refine h3 w (h2 w (List.mem_filter.mpr ⟨hw, ?_⟩))
    show (!goodWord w) = true
    cases hgw : goodWord w
    · rfl
    · exact absurd hgw g
theorem vx_c {args : Array Value} {s : State} {w : Cond} {B : List Cond} (h : w.before args s = true) (t : ∀ w ∈ B, w.before args s = true) : ∀ w' ∈ w :: B, w'.before args s = true := fun w' h' => (List.mem_cons.mp h').elim (fun e => by rw [e]; exact h) (t w')
theorem vx_n {args : Array Value} {s : State} : ∀ w ∈ ([] : List Cond), w.before args s = true := fun _ h => nomatch h
theorem vx_own {args : Array Value} {s : State} {L : List Cond} (h1 : ∀ w ∈ L.filter vx_no, w.before args s = true)
    (hU : (Cond.isRef (.static Bundle.tN "UNASSIGNED_STACK" Bundle.steD)).before args s = true) (hN : (Cond.isRef (.static Bundle.tN "SUPPRESSED_SENTINEL" Bundle.listD)).before args s = true)
    (lU : (Cond.laysStatic Bundle.tN "UNASSIGNED_STACK" Bundle.steD).before args s = true) (lN : (Cond.laysStatic Bundle.tN "SUPPRESSED_SENTINEL" Bundle.listD).before args s = true) : ∀ w ∈ L, w.before args s = true := by
  intro w hw
  by_cases e1 : w = .isRef (.static Bundle.tN "UNASSIGNED_STACK" Bundle.steD)
  · rw [e1]; exact hU
  · by_cases e2 : w = .isRef (.static Bundle.tN "SUPPRESSED_SENTINEL" Bundle.listD)
    · rw [e2]; exact hN
    · by_cases e3 : w = .laysStatic Bundle.tN "UNASSIGNED_STACK" Bundle.steD
      · rw [e3]; exact lU
      · by_cases e4 : w = .laysStatic Bundle.tN "SUPPRESSED_SENTINEL" Bundle.listD
        · rw [e4]; exact lN
        · exact h1 w (List.mem_filter.mpr ⟨hw, by unfold vx_no; rw [decide_eq_true e1, decide_eq_true e2, decide_eq_true e3, decide_eq_true e4]; rfl⟩)
/-- where a static field lies, its class's statics cell in H -/
def vx_L (C n d : String) (A : Nat → Prop) (U : State) (H : Heap) : Prop := ∃ (c : ClassId) (k : Class) (i : Nat) (f : Field) (a : Nat) (cell : Cell), U.vm.findClass C = some c ∧ U.fieldFound? C n d = some (c, k, i, f) ∧ f.isStatic = true ∧ k.statics = some a ∧ H[a]? = some cell ∧ cell.vm.isStatics = true ∧ cell.cls = c ∧ f.slot < cell.slots.size ∧ k.staticTypes[f.slot]? = some f.type ∧ ¬ A a
theorem vx_L.moved {C n d : String} {A : Nat → Prop} {u U : State} {H : Heap} (hvm : u.vm.Alike U.vm) (h : vx_L C n d A u H) : vx_L C n d A U H := by
  obtain ⟨c, k, i, f, a, cell, h1, h2, h3, h4, h5, h6, h7, h8, h9, h10⟩ := h
  obtain ⟨k', hi', he⟩ := State.fieldFound?_setVm hvm h2
  exact ⟨c, k', i, f, a, cell, by rw [hvm.findClass]; exact h1, hi', h3, by rw [he]; exact h4, h5, h6, h7, h8, by rw [he]; exact h9, h10⟩
theorem vx_L.kept {C n d : String} {A : Nat → Prop} {U : State} {H H1 : Heap} (h : vx_L C n d A U H) (hq : ∀ a : Nat, a < H.size → ¬ A a → H1[a]? = H[a]?) : vx_L C n d A U H1 := by
  obtain ⟨c, k, i, f, a, cell, h1, h2, h3, h4, h5, h6, h7, h8, h9, h10⟩ := h
  exact ⟨c, k, i, f, a, cell, h1, h2, h3, h4, by rw [hq a (Array.getElem?_eq_some_iff.mp h5).1 h10]; exact h5, h6, h7, h8, h9, h10⟩
theorem vx_L.narrow {C n d : String} {A B : Nat → Prop} {U : State} {H : Heap} (h : vx_L C n d A U H) (hAB : ∀ q, B q → A q) : vx_L C n d B U H := by
  obtain ⟨c, k, i, f, a, cell, h1, h2, h3, h4, h5, h6, h7, h8, h9, h10⟩ := h
  exact ⟨c, k, i, f, a, cell, h1, h2, h3, h4, h5, h6, h7, h8, h9, fun z => h10 (hAB _ z)⟩
theorem vx_L.word {C n d : String} {A : Nat → Prop} {s : State} {args : Array Value} (h : vx_L C n d A s s.heap) : (Cond.laysStatic C n d).before args s = true := by
  obtain ⟨c, k, i, f, a, cell, h1, h2, h3, h4, h5, h6, h7, h8, h9, -⟩ := h
  show (Cond.laysStatic C n d).holds args s none s [] = true
  exact Cond.laysStatic_of h1 h2 h3 h4 h5 h6 h7 h8 h9
/-- .. and what it holds: null or some reference -/
def vx_Zq (C n d : String) (A : Nat → Prop) (U : State) (H : Heap) : Prop := va_Zq C n d A U H ∧ vx_L C n d A U H
theorem vx_Zq.moved {C n d : String} {A : Nat → Prop} {u U : State} {H : Heap} (hvm : u.vm.Alike U.vm) (h : vx_Zq C n d A u H) : vx_Zq C n d A U H := ⟨va_Zq.moved hvm h.1, vx_L.moved hvm h.2⟩
theorem vx_Zq.kept {C n d : String} {A : Nat → Prop} {U : State} {H H1 : Heap} (h : vx_Zq C n d A U H) (hq : ∀ a : Nat, a < H.size → ¬ A a → H1[a]? = H[a]?) : vx_Zq C n d A U H1 := ⟨va_Zq.kept h.1 hq, vx_L.kept h.2 hq⟩
theorem vx_Zq.narrow {C n d : String} {A B : Nat → Prop} {U : State} {H : Heap} (h : vx_Zq C n d A U H) (hAB : ∀ q, B q → A q) : vx_Zq C n d B U H := ⟨va_Zq.narrow h.1 hAB, vx_L.narrow h.2 hAB⟩
theorem vx_Zqof {args : Array Value} {s : State} {C n d : String} {A : Nat → Prop} (hl : (Cond.laysStatic C n d).before args s = true) (hini : (Cond.initialized C).before args s = true) (h : (Cond.isRef (.static C n d)).before args s = true) (hA : ∀ a : Nat, a < s.heap.size → ¬ A a) : vx_Zq C n d A s s.heap := by
  refine ⟨va_Zqof hl hini h hA, ?_⟩
  obtain ⟨c, k, i, f, a, cell, h1, h2, h3, h4, h5, h6, h7, h8, h9⟩ := Cond.laysStatic_spec hl
  exact ⟨c, k, i, f, a, cell, h1, h2, h3, h4, h5, h6, h7, h8, h9, hA a (Array.getElem?_eq_some_iff.mp h5).1⟩
theorem vx_isRef {C n d : String} {v : Value} {A : Nat → Prop} {s : State} {args : Array Value} (h : va_Z C n d v A s s.heap) (hv : v.isRef = true) : (Cond.isRef (.static C n d)).before args s = true := by
  obtain ⟨cf, kf, fi, f, a, cell, h1, h2, h3, h4, h5, h6, h7, -⟩ := h
  have he : (Term.static C n d).eval args s none [] s = some v := by
    simp [Term.eval, State.fieldNamed?, h1, h2, h4, h5, h6, h7]
  simp only [Cond.before, Cond.holds, Cond.value, he]
  cases v <;> simp_all [Value.isRef]
theorem vx_isRefq {C n d : String} {A : Nat → Prop} {s : State} {args : Array Value} (h : va_Zq C n d A s s.heap) : (Cond.isRef (.static C n d)).before args s = true := by
  rcases h with h | ⟨t, h⟩
  · exact vx_isRef h rfl
  · exact vx_isRef h rfl
/-- the same frame, seen from here: as if the method were called anew in this heap -/
theorem vx_rebase {T : State} (X : Stand p l e R s m args below meth c T locs cells slots) {R' : Room} (hf : R'.frames ≤ R.frames) (hl : R'.locals ≤ R.locals) (hc : cells + R'.cells ≤ R.cells) (hs : slots + R'.slots ≤ R.slots) :
    Stand p l e R' ((T.setVm s.vm).setFrames (.invoking m args :: below)) m args below meth c T [] 0 0 := by
  have htop : (T.setVm s.vm).topJava?.isSome := X.here.top
  have hF : ((T.setVm s.vm).setFrames (.invoking m args :: below)).frames = .invoking m args :: below := State.frames_setFrames _ (State.cur_lt_of_top htop)
  obtain ⟨g₀, hg0⟩ := Option.isSome_iff_exists.mp htop
  obtain ⟨r, hr⟩ := State.topJava?_eq_some.mp hg0
  have hl9 : e.platform.stackLimits (T.setVm s.vm).me = e.platform.stackLimits s.me := X.limits
  have hb9 : (T.setVm s.vm).me.stackBytes = s.me.stackBytes := X.bytes
  refine ⟨X.admits, X.cas, X.clock, hF, ?_, X.hears, X.method, X.code, X.here, X.tail, X.warmed, ?_, ?_, ?_⟩
  · have h := X.room
    have hU : ((T.setVm s.vm).setFrames (.invoking m args :: below)).localsInUse = s.localsInUse := by
      rw [State.localsInUse_invoking hF (meth := meth) (c := c) X.method X.code, State.localsInUse_invoking X.frames X.method X.code]
    simp only [State.hasRoom, Bool.and_eq_true, decide_eq_true_eq] at h ⊢
    obtain ⟨⟨⟨⟨h1, h2, h3, h4, h5, h6⟩, h7⟩, h8⟩, h9⟩ := h
    rw [X.frames, List.length_cons] at h2 h3
    have q1 := X.heapSize
    have q2 := X.used
    simp only [hF, hU, List.length_cons, State.stackLimits_setFrames, State.stackBytes_setFrames, hl9, hb9]
    refine ⟨⟨⟨⟨by omega, by omega, by omega, by omega, by omega, h6⟩, ?_⟩, ?_⟩, X.book⟩
    · show T.heap.size + R'.cells ≤ e.platform.maxCells
      omega
    · show T.slotsUsed + R'.slots ≤ e.platform.maxSlots
      omega
  · rw [State.stackLimits_setFrames]; rfl
  · rw [State.stackBytes_setFrames]; rfl
  · refine ⟨?_, Nat.le_refl _, Nat.le_refl _, ?_, ?_, fun a c9 h9 => ⟨c9, h9, rfl, rfl, fun _ _ => rfl⟩⟩
    · obtain ⟨t, ht, -⟩ := State.frames_cons hr
      show T.setVm s.vm = { ((T.setVm s.vm).setFrames (.invoking m args :: below)).setFrames (T.setVm s.vm).frames with heap := T.heap, slotsUsed := T.slotsUsed }
      rw [State.setFrames_setFrames, State.setFrames_self ht]
      rfl
    · show T.slotsUsed = T.slotsUsed + ((T.heap.toList.drop T.heap.size).map (·.slots.size)).sum
      rw [List.drop_eq_nil_of_le (Nat.le_of_eq Array.length_toList)]
      rfl
    · show ((T.heap.toList.drop T.heap.size).map (·.slots.size)).sum ≤ 0
      rw [List.drop_eq_nil_of_le (Nat.le_of_eq Array.length_toList)]
      exact Nat.le_refl _
/-- 'throw new E()': new; dup; invokespecial; athrow -/
theorem vx_throw0 {cc : ByteArray} {pc : Nat} (hexec : p.tables.exec = Jvm.exec) (hb : c.code = cc) (hl : l.stackTraces = false) {own cls : String} {names : List String} {ik ic mc ms : Nat} {A : Nat → Prop}
    (hown : s.vm.findClass own = some m.cls) (hcls : Bundle.fit cls = true) (hnames : ∀ n ∈ names, Bundle.fit n = true)
    (hk : (Cond.classLink own ik cls).before args s = true) (hini : (Cond.initialized cls).before args s = true) (hat : ∀ w ∈ vx_at0 own ic cls names, w.before args s = true)
    (hgood : ∀ w ∈ Cond.classLink own ik cls :: Cond.initialized cls :: vx_at0 own ic cls names, vx_ot w = true)
    (hU : vx_Zq Bundle.tN "UNASSIGNED_STACK" Bundle.steD A s s.heap) (hN : vx_Zq Bundle.tN "SUPPRESSED_SENTINEL" Bundle.listD A s s.heap) (hS : va_S A s.heap H locs) (hsize : ls.size = c.maxLocals)
    (d0 : decode cc pc = .ok (.new ik, 3)) (d3 : decode cc (pc + 3) = .ok (.dup, 1)) (d4 : decode cc (pc + 4) = .ok (.invokespecial ic, 3)) (d7 : decode cc (pc + 7) = .ok (.athrow, 1))
    (hout : ∀ x ∈ c.exceptionTable.toList, covers x (pc + 7) = false)
    (hRframes : names.length + 3 < R.frames) (hRlocals : (rest.map fun v => v.category).sum + (13 * (names.length + 1) + 42) ≤ R.locals) (hRcells : cells + 1 ≤ R.cells) (hRslots : slots + 6 ≤ R.slots) (hlocks : meth.locks = false)
    (hx : ∀ t : State, s.vm.Alike t.vm → H.size ≤ t.heap.size → (∀ q : Nat, q < H.size → t.heap[q]? = H[q]?) → XC cls s t)
    (hf : ∀ z ∈ locs, free z.base) (hc : cells + 1 ≤ mc) (hs : slots + 6 ≤ ms) :
    W p l e R s m args below meth c H locs cells slots (vx_MQ below Qc XC args s mc ms free) (F0 m pc ls rest) := by
  intro T hT X
  have htr : e.platform.stackTraces = false := (show e.platform.stackTraces = l.stackTraces by rw [X.admits.platform]).trans hl
  have Y := vx_rebase X (R' := { frames := R.frames, locals := R.locals, cells := 1, slots := 6 }) (Nat.le_refl _) (Nat.le_refl _) hRcells hRslots
  obtain ⟨s', hA⟩ : ∃ z, z = (T.setVm s.vm).setFrames (.invoking m args :: below) := ⟨_, rfl⟩
  rw [← hA] at Y
  have hvm : s'.vm = s.vm := by rw [hA]; rfl
  have hhp : s'.heap = H := by rw [hA]; exact hT
  have hW0 : s.WarmedH s'.vm := by rw [hvm]; exact State.WarmedH.refl s
  have hat' : ∀ w ∈ vx_at0 own ic cls names, w.before args s' = true := fun w hw => vx_ot_at hW0 hvm.symm (hgood w (List.mem_cons_of_mem _ (List.mem_cons_of_mem _ hw))) (hat w hw)
  have hk' : (Cond.classLink own ik cls).before args s' = true := vx_ot_at hW0 hvm.symm (hgood _ List.mem_cons_self) hk
  have hini' : (Cond.initialized cls).before args s' = true := vx_ot_at hW0 hvm.symm (hgood _ (List.mem_cons_of_mem _ List.mem_cons_self)) hini
  have hU' : vx_Zq Bundle.tN "UNASSIGNED_STACK" Bundle.steD A s' s'.heap := by rw [hhp]; exact vx_Zq.moved hW0.alike (hU.kept hS.2.1)
  have hN' : vx_Zq Bundle.tN "SUPPRESSED_SENTINEL" Bundle.listD A s' s'.heap := by rw [hhp]; exact vx_Zq.moved hW0.alike (hN.kept hS.2.1)
  have h : ∀ w ∈ Bundle.ownAtoms0 own ic cls names, w.before args s' = true := vx_own hat' (vx_isRefq hU'.1) (vx_isRefq hN'.1) hU'.2.word hN'.2.word
  have hown' : s'.vm.findClass own = some m.cls := by rw [hvm]; exact hown
  have hins : (Cond.instantiable cls 6).before args s' = true := h _ (by simp [Bundle.ownAtoms0])
  obtain ⟨vm₁, cX, kX, hfX, hkX, -, -, X₁, st1⟩ := Y.newCold hexec (own := own) (C := cls) (index := ik) (n := 6) hown' hk' hins hini'
    (g := F0 m pc ls rest) rfl (by rw [hb]; exact d0) (Nat.le_refl _) (Nat.le_refl _)
  generalize hT1 : (T.setVm vm₁).pushCell { cls := cX, slots := kX.instanceTypes.map defaultValue, vm := .none } = T1 at X₁ st1
  have hcat : (Value.ref T.heap.size).category = 1 := rfl
  have hcellA : T1.heap[T.heap.size]? = some (freshCell cX kX) := by rw [← hT1]; exact State.heap_pushCell_size _ _
  have d3' : decode c.code (pc + 3) = .ok (.dup, 1) := by rw [hb]; exact d3
  obtain ⟨U, hsteps, hrun, hend, hW, hsame, ce, hce, hO⟩ := X₁.ctorThrow0 hexec htr (own := own) (cls := cls) (names := names) (ic := ic) hown' hcls hnames h (fun x hx => nomatch hx) hfX hkX hcellA (by rw [hhp, hT]; exact Nat.le_refl _)
    (g := { method := m, pc := pc + 4, locals := ls, stack := .ref T.heap.size :: .ref T.heap.size :: rest, locked := none }) rfl hsize rfl rfl (rest := rest) rfl
    (by rw [hb]; exact d4) (by rw [hb]; exact d7) hout hRframes (by simp only [List.map_cons, List.sum_cons, hcat]; omega) hlocks
  obtain ⟨f1, f2⟩ := vx_frame hsame
  rw [hhp] at f1 f2
  have hWs : s.WarmedH U.vm := State.WarmedH.trans hW0 hW
  have hcl : s.vm.findClass cls = some ce.cls := by
    have h9 := hO.cls
    rw [hvm] at h9
    exact h9
  have hall : s.sameButNew ({ U with vm := s.vm } : State) locs mc ms := by
    subst hA
    obtain ⟨e1, e2⟩ := hsame
    rw [State.setFrames_setFrames] at e1
    have h2 : (T.setVm s.vm).sameButNew ({ U with vm := s.vm } : State) [] (0 + 1) (0 + 6) := ⟨e1, e2⟩
    have h3 := X.same.trans h2
    rw [List.append_nil] at h3
    exact h3.mono hc hs
  refine ⟨U, ?_, .threw T.heap.size, hrun, hend, Or.inr ⟨T.heap.size, rfl, cls, ce, locs, hx U hWs.alike f1 (fun q hq => f2 q hq (fun z hz => nomatch hz)), hce, hO.vm, hcl, hWs, hall, hf⟩⟩
  refine st1 _ ?_
  show Steps p.tables e below (T1.setTop { method := m, pc := pc + 3, locals := ls, stack := .ref T.heap.size :: rest, locked := none }) _
  jvm_step X₁.here [X₁.here.top, hexec, d3', Value.category]
  exact hsteps
/-- 'throw new E("text")': new; dup; ldc; invokespecial; athrow -/
theorem vx_throwS {cc : ByteArray} {pc : Nat} (hexec : p.tables.exec = Jvm.exec) (hb : c.code = cc) (hl : l.stackTraces = false) {own cls text : String} {names : List String} {ik is ic mc ms sa : Nat} {A : Nat → Prop}
    (hown : s.vm.findClass own = some m.cls) (hcls : Bundle.fit cls = true) (hnames : ∀ n ∈ names, Bundle.fit n = true)
    (hk : (Cond.classLink own ik cls).before args s = true) (hini : (Cond.initialized cls).before args s = true) (hstr : vk_R own is text sa s) (hat : ∀ w ∈ vx_atS own ic cls names, w.before args s = true)
    (hgood : ∀ w ∈ Cond.classLink own ik cls :: Cond.initialized cls :: vx_atS own ic cls names, vx_ot w = true)
    (hU : vx_Zq Bundle.tN "UNASSIGNED_STACK" Bundle.steD A s s.heap) (hN : vx_Zq Bundle.tN "SUPPRESSED_SENTINEL" Bundle.listD A s s.heap) (hS : va_S A s.heap H locs) (hsize : ls.size = c.maxLocals)
    (d0 : decode cc pc = .ok (.new ik, 3)) (d3 : decode cc (pc + 3) = .ok (.dup, 1)) (d4 : decode cc (pc + 4) = .ok (.ldc is, 2)) (d6 : decode cc (pc + 6) = .ok (.invokespecial ic, 3)) (d9 : decode cc (pc + 9) = .ok (.athrow, 1))
    (hout : ∀ x ∈ c.exceptionTable.toList, covers x (pc + 9) = false)
    (hRframes : names.length + 3 < R.frames) (hRlocals : (rest.map fun v => v.category).sum + (13 * (names.length + 1) + 43) ≤ R.locals) (hRcells : cells + 1 ≤ R.cells) (hRslots : slots + 6 ≤ R.slots) (hlocks : meth.locks = false)
    (hx : ∀ t : State, s.vm.Alike t.vm → H.size ≤ t.heap.size → (∀ q : Nat, q < H.size → t.heap[q]? = H[q]?) → XC cls s t)
    (hf : ∀ z ∈ locs, free z.base) (hc : cells + 1 ≤ mc) (hs : slots + 6 ≤ ms) :
    W p l e R s m args below meth c H locs cells slots (vx_MQ below Qc XC args s mc ms free) (F0 m pc ls rest) := by
  intro T hT X
  have htr : e.platform.stackTraces = false := (show e.platform.stackTraces = l.stackTraces by rw [X.admits.platform]).trans hl
  have Y := vx_rebase X (R' := { frames := R.frames, locals := R.locals, cells := 1, slots := 6 }) (Nat.le_refl _) (Nat.le_refl _) hRcells hRslots
  obtain ⟨s', hA⟩ : ∃ z, z = (T.setVm s.vm).setFrames (.invoking m args :: below) := ⟨_, rfl⟩
  rw [← hA] at Y
  have hvm : s'.vm = s.vm := by rw [hA]; rfl
  have hhp : s'.heap = H := by rw [hA]; exact hT
  have hW0 : s.WarmedH s'.vm := by rw [hvm]; exact State.WarmedH.refl s
  have hat' : ∀ w ∈ vx_atS own ic cls names, w.before args s' = true := fun w hw => vx_ot_at hW0 hvm.symm (hgood w (List.mem_cons_of_mem _ (List.mem_cons_of_mem _ hw))) (hat w hw)
  have hk' : (Cond.classLink own ik cls).before args s' = true := vx_ot_at hW0 hvm.symm (hgood _ List.mem_cons_self) hk
  have hini' : (Cond.initialized cls).before args s' = true := vx_ot_at hW0 hvm.symm (hgood _ (List.mem_cons_of_mem _ List.mem_cons_self)) hini
  have hU' : vx_Zq Bundle.tN "UNASSIGNED_STACK" Bundle.steD A s' s'.heap := by rw [hhp]; exact vx_Zq.moved hW0.alike (hU.kept hS.2.1)
  have hN' : vx_Zq Bundle.tN "SUPPRESSED_SENTINEL" Bundle.listD A s' s'.heap := by rw [hhp]; exact vx_Zq.moved hW0.alike (hN.kept hS.2.1)
  have h : ∀ w ∈ Bundle.ownAtoms own ic cls names, w.before args s' = true := vx_own hat' (vx_isRefq hU'.1) (vx_isRefq hN'.1) hU'.2.word hN'.2.word
  have hown' : s'.vm.findClass own = some m.cls := by rw [hvm]; exact hown
  have hins : (Cond.instantiable cls 6).before args s' = true := h _ (by simp [Bundle.ownAtoms])
  obtain ⟨vm₁, cX, kX, hfX, hkX, -, -, X₁, st1⟩ := Y.newCold hexec (own := own) (C := cls) (index := ik) (n := 6) hown' hk' hins hini'
    (g := F0 m pc ls rest) rfl (by rw [hb]; exact d0) (Nat.le_refl _) (Nat.le_refl _)
  generalize hT1 : (T.setVm vm₁).pushCell { cls := cX, slots := kX.instanceTypes.map defaultValue, vm := .none } = T1 at X₁ st1
  have hcat : (Value.ref T.heap.size).category = 1 := rfl
  have hcellA : T1.heap[T.heap.size]? = some (freshCell cX kX) := by rw [← hT1]; exact State.heap_pushCell_size _ _
  have d3' : decode c.code (pc + 3) = .ok (.dup, 1) := by rw [hb]; exact d3
  have d4' : decode c.code (pc + 4) = .ok (.ldc is, 2) := by rw [hb]; exact d4
  have hstr' : vk_R own is text sa s' := vk_R.warm hW0 hstr
  obtain ⟨U, hsteps, hrun, hend, hW, hsame, ce, hce, hO⟩ := X₁.ctorThrowS hexec htr (own := own) (cls := cls) (names := names) (ic := ic) hown' hcls hnames h (fun x hx => nomatch hx) hfX hkX hcellA (by rw [hhp, hT]; exact Nat.le_refl _) (msg := .ref sa) rfl
    (g := { method := m, pc := pc + 6, locals := ls, stack := .ref sa :: .ref T.heap.size :: .ref T.heap.size :: rest, locked := none }) rfl hsize rfl rfl (rest := rest) rfl
    (by rw [hb]; exact d6) (by rw [hb]; exact d9) hout hRframes (by simp only [List.map_cons, List.sum_cons, hcat]; omega) hlocks
  obtain ⟨f1, f2⟩ := vx_frame hsame
  rw [hhp] at f1 f2
  have hWs : s.WarmedH U.vm := State.WarmedH.trans hW0 hW
  have hcl : s.vm.findClass cls = some ce.cls := by
    have h9 := hO.cls
    rw [hvm] at h9
    exact h9
  have hall : s.sameButNew ({ U with vm := s.vm } : State) locs mc ms := by
    subst hA
    obtain ⟨e1, e2⟩ := hsame
    rw [State.setFrames_setFrames] at e1
    have h2 : (T.setVm s.vm).sameButNew ({ U with vm := s.vm } : State) [] (0 + 1) (0 + 6) := ⟨e1, e2⟩
    have h3 := X.same.trans h2
    rw [List.append_nil] at h3
    exact h3.mono hc hs
  refine ⟨U, ?_, .threw T.heap.size, hrun, hend, Or.inr ⟨T.heap.size, rfl, cls, ce, locs, hx U hWs.alike f1 (fun q hq => f2 q hq (fun z hz => nomatch hz)), hce, hO.vm, hcl, hWs, hall, hf⟩⟩
  refine st1 _ ?_
  show Steps p.tables e below (T1.setTop { method := m, pc := pc + 3, locals := ls, stack := .ref T.heap.size :: rest, locked := none }) _
  jvm_step X₁.here [X₁.here.top, hexec, d3', Value.category]
  exact X₁.ldcString hexec (own := own) (text := text) (index := is) (a := sa) hown' hstr'.1 hstr'.2
    (g := { method := m, pc := pc + 4, locals := ls, stack := .ref T.heap.size :: .ref T.heap.size :: rest, locked := none }) rfl d4' _ hsteps
/-- 'throw new E("text")', the text by a wide index -/
theorem vx_throwSW {cc : ByteArray} {pc : Nat} (hexec : p.tables.exec = Jvm.exec) (hb : c.code = cc) (hl : l.stackTraces = false) {own cls text : String} {names : List String} {ik is ic mc ms sa : Nat} {A : Nat → Prop}
    (hown : s.vm.findClass own = some m.cls) (hcls : Bundle.fit cls = true) (hnames : ∀ n ∈ names, Bundle.fit n = true)
    (hk : (Cond.classLink own ik cls).before args s = true) (hini : (Cond.initialized cls).before args s = true) (hstr : vk_R own is text sa s) (hat : ∀ w ∈ vx_atS own ic cls names, w.before args s = true)
    (hgood : ∀ w ∈ Cond.classLink own ik cls :: Cond.initialized cls :: vx_atS own ic cls names, vx_ot w = true)
    (hU : vx_Zq Bundle.tN "UNASSIGNED_STACK" Bundle.steD A s s.heap) (hN : vx_Zq Bundle.tN "SUPPRESSED_SENTINEL" Bundle.listD A s s.heap) (hS : va_S A s.heap H locs) (hsize : ls.size = c.maxLocals)
    (d0 : decode cc pc = .ok (.new ik, 3)) (d3 : decode cc (pc + 3) = .ok (.dup, 1)) (d4 : decode cc (pc + 4) = .ok (.ldc_w is, 3)) (d7 : decode cc (pc + 7) = .ok (.invokespecial ic, 3)) (d10 : decode cc (pc + 10) = .ok (.athrow, 1))
    (hout : ∀ x ∈ c.exceptionTable.toList, covers x (pc + 10) = false)
    (hRframes : names.length + 3 < R.frames) (hRlocals : (rest.map fun v => v.category).sum + (13 * (names.length + 1) + 43) ≤ R.locals) (hRcells : cells + 1 ≤ R.cells) (hRslots : slots + 6 ≤ R.slots) (hlocks : meth.locks = false)
    (hx : ∀ t : State, s.vm.Alike t.vm → H.size ≤ t.heap.size → (∀ q : Nat, q < H.size → t.heap[q]? = H[q]?) → XC cls s t)
    (hf : ∀ z ∈ locs, free z.base) (hc : cells + 1 ≤ mc) (hs : slots + 6 ≤ ms) :
    W p l e R s m args below meth c H locs cells slots (vx_MQ below Qc XC args s mc ms free) (F0 m pc ls rest) := by
  intro T hT X
  have htr : e.platform.stackTraces = false := (show e.platform.stackTraces = l.stackTraces by rw [X.admits.platform]).trans hl
  have Y := vx_rebase X (R' := { frames := R.frames, locals := R.locals, cells := 1, slots := 6 }) (Nat.le_refl _) (Nat.le_refl _) hRcells hRslots
  obtain ⟨s', hA⟩ : ∃ z, z = (T.setVm s.vm).setFrames (.invoking m args :: below) := ⟨_, rfl⟩
  rw [← hA] at Y
  have hvm : s'.vm = s.vm := by rw [hA]; rfl
  have hhp : s'.heap = H := by rw [hA]; exact hT
  have hW0 : s.WarmedH s'.vm := by rw [hvm]; exact State.WarmedH.refl s
  have hat' : ∀ w ∈ vx_atS own ic cls names, w.before args s' = true := fun w hw => vx_ot_at hW0 hvm.symm (hgood w (List.mem_cons_of_mem _ (List.mem_cons_of_mem _ hw))) (hat w hw)
  have hk' : (Cond.classLink own ik cls).before args s' = true := vx_ot_at hW0 hvm.symm (hgood _ List.mem_cons_self) hk
  have hini' : (Cond.initialized cls).before args s' = true := vx_ot_at hW0 hvm.symm (hgood _ (List.mem_cons_of_mem _ List.mem_cons_self)) hini
  have hU' : vx_Zq Bundle.tN "UNASSIGNED_STACK" Bundle.steD A s' s'.heap := by rw [hhp]; exact vx_Zq.moved hW0.alike (hU.kept hS.2.1)
  have hN' : vx_Zq Bundle.tN "SUPPRESSED_SENTINEL" Bundle.listD A s' s'.heap := by rw [hhp]; exact vx_Zq.moved hW0.alike (hN.kept hS.2.1)
  have h : ∀ w ∈ Bundle.ownAtoms own ic cls names, w.before args s' = true := vx_own hat' (vx_isRefq hU'.1) (vx_isRefq hN'.1) hU'.2.word hN'.2.word
  have hown' : s'.vm.findClass own = some m.cls := by rw [hvm]; exact hown
  have hins : (Cond.instantiable cls 6).before args s' = true := h _ (by simp [Bundle.ownAtoms])
  obtain ⟨vm₁, cX, kX, hfX, hkX, -, -, X₁, st1⟩ := Y.newCold hexec (own := own) (C := cls) (index := ik) (n := 6) hown' hk' hins hini'
    (g := F0 m pc ls rest) rfl (by rw [hb]; exact d0) (Nat.le_refl _) (Nat.le_refl _)
  generalize hT1 : (T.setVm vm₁).pushCell { cls := cX, slots := kX.instanceTypes.map defaultValue, vm := .none } = T1 at X₁ st1
  have hcat : (Value.ref T.heap.size).category = 1 := rfl
  have hcellA : T1.heap[T.heap.size]? = some (freshCell cX kX) := by rw [← hT1]; exact State.heap_pushCell_size _ _
  have d3' : decode c.code (pc + 3) = .ok (.dup, 1) := by rw [hb]; exact d3
  have d4' : decode c.code (pc + 4) = .ok (.ldc_w is, 3) := by rw [hb]; exact d4
  have hstr' : vk_R own is text sa s' := vk_R.warm hW0 hstr
  obtain ⟨U, hsteps, hrun, hend, hW, hsame, ce, hce, hO⟩ := X₁.ctorThrowS hexec htr (own := own) (cls := cls) (names := names) (ic := ic) hown' hcls hnames h (fun x hx => nomatch hx) hfX hkX hcellA (by rw [hhp, hT]; exact Nat.le_refl _) (msg := .ref sa) rfl
    (g := { method := m, pc := pc + 7, locals := ls, stack := .ref sa :: .ref T.heap.size :: .ref T.heap.size :: rest, locked := none }) rfl hsize rfl rfl (rest := rest) rfl
    (by rw [hb]; exact d7) (by rw [hb]; exact d10) hout hRframes (by simp only [List.map_cons, List.sum_cons, hcat]; omega) hlocks
  obtain ⟨f1, f2⟩ := vx_frame hsame
  rw [hhp] at f1 f2
  have hWs : s.WarmedH U.vm := State.WarmedH.trans hW0 hW
  have hcl : s.vm.findClass cls = some ce.cls := by
    have h9 := hO.cls
    rw [hvm] at h9
    exact h9
  have hall : s.sameButNew ({ U with vm := s.vm } : State) locs mc ms := by
    subst hA
    obtain ⟨e1, e2⟩ := hsame
    rw [State.setFrames_setFrames] at e1
    have h2 : (T.setVm s.vm).sameButNew ({ U with vm := s.vm } : State) [] (0 + 1) (0 + 6) := ⟨e1, e2⟩
    have h3 := X.same.trans h2
    rw [List.append_nil] at h3
    exact h3.mono hc hs
  refine ⟨U, ?_, .threw T.heap.size, hrun, hend, Or.inr ⟨T.heap.size, rfl, cls, ce, locs, hx U hWs.alike f1 (fun q hq => f2 q hq (fun z hz => nomatch hz)), hce, hO.vm, hcl, hWs, hall, hf⟩⟩
  refine st1 _ ?_
  show Steps p.tables e below (T1.setTop { method := m, pc := pc + 3, locals := ls, stack := .ref T.heap.size :: rest, locked := none }) _
  jvm_step X₁.here [X₁.here.top, hexec, d3', Value.category]
  exact X₁.ldcStringW hexec (own := own) (text := text) (index := is) (a := sa) hown' hstr'.1 hstr'.2
    (g := { method := m, pc := pc + 4, locals := ls, stack := .ref T.heap.size :: .ref T.heap.size :: rest, locked := none }) rfl d4' _ hsteps
end Ends
section Bodies
variable {l : Launch}
theorem vx_ofW {y : MethodName} {ws ws' : List Cond} {rm : Room} {Pc : Array Value → State → Prop} {Qc : Array Value → State → Outcome → State → Prop} {XC : String → State → State → Prop} {mc ms : Nat} {free : Addr → Prop} {cc : ByteArray} {maxL : Nat} {ret : Option FieldType}
    (hy : plainName y.cls = true) (hw : ws = Cond.code y cc maxL ret :: ws')
    (body : ∀ p e s m args below meth c s₁, BodyLoose p l y (headSpec ws rm) cc maxL ret e s m args below meth c s₁ → c.maxLocals = maxL → (∀ x ∈ c.exceptionTable.toList, False) → Pc args s →
      W p l e (headSpec ws rm).room s m args below meth c s.heap [] 0 0 (vx_MQ below Qc XC args s mc ms free) (entryFrame m args maxL)) : vx_Met l y ws rm Pc Qc XC mc ms free := by
  refine MetFree.of_bodyS (code := cc) (maxLocals := maxL) (ret := ret) hy ?_ ?_
  · intro args s m h hn
    obtain ⟨meth, c, h1, h2, h3, h4, h5, h6, -, -⟩ := Cond.code_spec hn (atoms_spec (ws := ws) h _ (by rw [hw]; exact List.mem_cons_self))
    exact ⟨meth, c, h1, h2, h3, h4, h5, h6⟩
  · intro p e s m args below meth c s₁ B hml hP _
    have hh0 : s₁.heap = s.heap := by rw [B.state]; rfl
    have ht : ∀ x ∈ c.exceptionTable.toList, False := by
      obtain ⟨meth9, c9, h1, h2, -, -, -, -, h7, -⟩ := Cond.code_spec B.named (atoms_spec (ws := ws) B.pre _ (by rw [hw]; exact List.mem_cons_self))
      cases Option.some.inj (h1.symm.trans B.method)
      cases Option.some.inj (h2.symm.trans (Stand.of_body B).code)
      intro x hx
      rw [Array.isEmpty_iff.mp h7] at hx
      cases hx
    obtain ⟨t, a1, o, b1, b2, b3⟩ := body p e s m args below meth c s₁ B hml ht hP s₁ hh0 (Stand.of_body B)
    exact ⟨t, o, a1, b1, b2, b3⟩
/-- the table of a body with handlers -/
theorem vx_table {p : Program} {x y : MethodName} {S : Spec} {cc bytes : ByteArray} {maxL maxL' : Nat} {ret ret' : Option FieldType} {e : Env} {s s₁ : State} {m : MethodId} {args : Array Value} {below : List Frame} {meth : Method} {c : Code} {hh : List (Nat × Nat × Nat × Nat)}
    (B : BodyLoose p l y S cc maxL ret e s m args below meth c s₁) (h : (Cond.codeWith y bytes maxL' ret' hh).before args s = true) : c.exceptionTable.toList = tableOf hh := by
  obtain ⟨m9, meth9, c9, hn9, h1, h2, -, -, h6, -⟩ := Cond.codeWith_spec h
  cases Option.some.inj (hn9.symm.trans B.named)
  cases Option.some.inj (h1.symm.trans B.method)
  cases Option.some.inj (h2.symm.trans (Stand.of_body B).code)
  rw [← h6, table_eq]
end Bodies
end VXA
/-! ===== END ===== -/
/-! ===== BEGIN a static call of a method with an exception table ===== -/
section VXS
variable {p : Program} {l : Launch} {e : Env} {R : Room} {s : State} {m : MethodId} {args : Array Value} {below : List Frame} {meth : Method} {c : Code} {T : State} {H : Heap} {locs : List Loc} {cells slots : Nat}
abbrev vx_CSW (R : Room) (s : State) (args : Array Value) (own : String) (index : Nat) (y : MethodName) (bytes : ByteArray) (maxL : Nat) (ret : Option FieldType) (hh : List (Nat × Nat × Nat × Nat)) (ws : List Cond) (rm : Room) (mc ms n : Nat) : Prop :=
  (rm.cells = mc ∧ rm.slots = ms ∧ rm.frames + 1 ≤ R.frames ∧ 8 + (maxL + 11) + rm.locals ≤ R.locals ∧ (∀ w ∈ ws, ∀ (a' : Array Value) (U : State), s.WarmedH U.vm → w.before a' U = true) ∧ Cond.codeWith y bytes maxL ret hh ∈ ws) ∧
  (Cond.codeWith y bytes maxL ret hh).before args s = true ∧ (Cond.initialized y.cls).before args s = true ∧ (y.cls ≠ "java/lang/invoke/MethodHandle" ∧ y.cls ≠ "java/lang/invoke/VarHandle") ∧
  (∀ sig, parseMethodDescriptor y.desc = some sig → n = sig.parameters.length) ∧ (Cond.methodLink own index y).before args s = true ∧ (Cond.static y).before args s = true
theorem vx_cwSW {own : String} {index maxL mc ms : Nat} {y : MethodName} {bytes : ByteArray} {ret : Option FieldType} {hh : List (Nat × Nat × Nat × Nat)} {Ts ws ws' : List Cond} {rm : Room} (n : Nat) (ht : ∀ w ∈ Ts, w.before args s = true) (hT : GoodIn Ts (va_wsS own index y ws)) (hw : ws = Cond.codeWith y bytes maxL ret hh :: ws') (hrc : rm.cells = mc) (hrs : rm.slots = ms)
    (hd : y.cls ≠ "java/lang/invoke/MethodHandle" ∧ y.cls ≠ "java/lang/invoke/VarHandle" ∧ (parseMethodDescriptor y.desc).map (fun d => d.parameters.length) = some n) (hR : rm.frames + 1 ≤ R.frames ∧ 8 + (maxL + 11) + rm.locals ≤ R.locals) :
    vx_CSW R s args own index y bytes maxL ret hh ws rm mc ms n := by
  have ok : ∀ w ∈ va_wsS own index y ws, w.before args s = true := fun w h => ht w (hT w h).1
  have hG : GoodIn Ts ws := fun w h => hT w (by unfold va_wsS; exact List.mem_append_right _ h)
  have hc : Cond.codeWith y bytes maxL ret hh ∈ ws := by rw [hw]; exact List.mem_cons_self
  refine ⟨⟨hrc, hrs, hR.1, hR.2, pay_in ht hG, hc⟩, ht _ (hG _ hc).1, ok _ (by simp [va_wsS]), ⟨hd.1, hd.2.1⟩, fun sig h => ?_, ok _ (by simp [va_wsS]), ok _ (by simp [va_wsS])⟩
  have h2 := hd.2.2
  rw [h] at h2
  exact (Option.some.inj h2).symm
theorem vx_callSW (X : Stand p l e R s m args below meth c T locs cells slots) (hexec : p.tables.exec = Jvm.exec) {own : String} {index : Nat} {y : MethodName} {bytes : ByteArray} {maxL : Nat} {ret : Option FieldType} {hh : List (Nat × Nat × Nat × Nat)}
    (hown : s.vm.findClass own = some m.cls) (hlink : (Cond.methodLink own index y).before args s = true) (hstat : (Cond.static y).before args s = true) (hinit : (Cond.initialized y.cls).before args s = true)
    (hcode : (Cond.codeWith y bytes maxL ret hh).before args s = true) (hy : y.cls ≠ "java/lang/invoke/MethodHandle" ∧ y.cls ≠ "java/lang/invoke/VarHandle")
    {W9 : Nat} {Pre : Pt → Array Value → Prop} {Post : Pt → Array Value → Option Value → Pt → Prop} (hK : Back l R p e below s args y 3 W9 Pre Post)
    {g : JFrame} (hg : g.method = m) (hsize : g.locals.size = c.maxLocals) {argsL rest : List Value} (hlen : ∀ sig, parseMethodDescriptor y.desc = some sig → argsL.length = sig.parameters.length)
    (hstack : g.stack = argsL.reverse ++ rest) (hW : 2 * g.monitorRoom + (rest.map fun v => v.category).sum ≤ W9) (hdg : decode c.code g.pc = .ok (.invokestatic index, 3))
    (hpre : ∀ vm₁, s.WarmedH vm₁ → Pre ⟨T.setVm vm₁, locs, cells, slots⟩ argsL.toArray) :
    ∃ (v : Option Value) (vm₁ : Vm) (B : Pt), s.WarmedH vm₁ ∧ Stand p l e R s m args below meth c B.U B.locs B.cells B.slots ∧ Post ⟨T.setVm vm₁, locs, cells, slots⟩ argsL.toArray v B ∧
      ∀ target, Steps p.tables e below (B.U.setTop { g with pc := g.pc + 3, stack := v.toList ++ rest }) target → Steps p.tables e below (T.setTop g) target := by
  obtain ⟨mk, methM, cM, hnamed, hmethM, -, -, -, -, -, -, hsigM⟩ := Cond.codeWith_spec hcode
  have hstatic : methM.isStatic = true := Cond.static_spec hnamed hmethM hstat
  obtain ⟨kP, hkP, -⟩ := className_of_methodNamed hnamed
  have hinitP : kP.init = .initialized := Cond.initialized_spec (findClass_of_methodNamed hnamed) hkP hinit
  obtain ⟨vm₁, X₁, hstep₁⟩ := X.invokestatic hexec hown hlink hnamed hmethM hstatic hkP hinitP hy (g := g) hg (argsL := argsL) (rest := rest) (hlen _ hsigM) hstack hdg
  obtain ⟨v, B, X', hpost, hsteps⟩ := hK m meth c ⟨T.setVm vm₁, locs, cells, slots⟩ { g with stack := rest } (.invokestatic index) mk argsL.toArray X₁ hg hsize hdg hW (X₁.named hnamed) (hpre vm₁ X₁.warmed)
  exact ⟨v, vm₁, B, X₁.warmed, X', hpost, fun target h => hstep₁ _ fun acts => by rw [doInvoke_state]; exact hsteps.trans h⟩
theorem vx_runSW {y : MethodName} {bytes cc : ByteArray} {maxL nL mc ms n index : Nat} {ret : Option FieldType} {hh : List (Nat × Nat × Nat × Nat)} {ws : List Cond} {rm : Room} {Pc : Array Value → State → Prop} {Qc : Array Value → State → Outcome → State → Prop} {free : Addr → Prop} {Ts : List Cond} {own : String} {As rest : List Value} {g : JFrame}
    (S : CallFix p m c cc nL s args Ts own) (hM : Met l y ws rm Pc Qc mc ms free) (cw : vx_CSW R s args own index y bytes maxL ret hh ws rm mc ms n) (hp : PreS s H Pc As)
    (hg : g.method = m) (hn : As.length = n) (hsize : g.locals.size = nL) (hstack : g.stack = As.reverse ++ rest) (hW : 2 * g.monitorRoom + (rest.map fun v => v.category).sum ≤ 8) (hdg : decode cc g.pc = .ok (.invokestatic index, 3)) (hf : cells + mc ≤ R.cells ∧ slots + ms ≤ R.slots) :
    va_Run p l e R s m args below meth c H locs cells slots mc ms g rest (Qc As.toArray) (free) := by
  obtain ⟨⟨hrc, hrs, hfr, hlo, hws, hcw⟩, hcode, hini, hy, hlen, hl, hstt⟩ := cw
  have hK : Back l R p e below s args y 3 8 (PreOf R mc ms Pc) (PostOf Qc mc ms free) := va_backW (hh := hh) (bytes := bytes) (maxL := maxL) (ret := ret) hM hp.1 hrc hrs hfr hlo hws hcw (fun a' U hW => word_at hW (Or.inl (by first | rfl | simp [Cond.onTables, Cond.keeps, Cond.steady])) hini)
  obtain ⟨hx, hb, hml, ho, -⟩ := S
  intro T hT X
  obtain ⟨v, vm₁, ⟨U', l2, c2, s2⟩, hW₁, X', ⟨g', mk, t, L, e1, e2, hq, h1, hL, h2, h3⟩, st⟩ := vx_callSW X hx (hh := hh) (bytes := bytes) (maxL := maxL) (ret := ret) ho hl hstt hini hcode hy hK hg (hsize.trans hml.symm) (argsL := As) (rest := rest) (fun sig h => hn.trans (hlen sig h)) hstack hW (by rw [hb]; exact hdg)
    (fun vm₁ hW₁ => ⟨hf.1, hf.2, hp.2 (T.setVm vm₁) hT hW₁⟩)
  dsimp only [Pt.U, Pt.locs, Pt.cells, Pt.slots] at X' e1 e2 h1 h2 h3 st
  subst h1; subst h2; subst h3
  exact ⟨v, (T.setVm vm₁).calling g' mk As.toArray, t, U', L, hT, X', hL, e1, e2, hq, st⟩
/-- not caught here, past rows that name other classes: it goes on to the caller -/
theorem vx_outP {p : Program} {l : Launch} {e : Env} {R : Room} {s : State} {m : MethodId} {args : Array Value} {below : List Frame} {meth : Method} {c : Code} {H : Heap} {locs : List Loc} {cells slots : Nat} {free : Addr → Prop} {ls : Array Slot} {rest : List Value} {Qc : Array Value → State → Outcome → State → Prop} {XC : String → State → State → Prop}
    {pc : Nat} {own E : String} {ce : Cell} {q : Addr} {mc ms : Nat} (hown : s.vm.findClass own = some m.cls) (hlocks : meth.locks = false)
    (hpass : ∀ z ∈ c.exceptionTable.toList, covers z pc = false ∨ (z.catchType ≠ 0 ∧ ∃ nm : String, (Cond.classLink own z.catchType nm).before args s = true ∧ va_Nc E nm s)) (hcell : H[q]? = some ce) (hv : ce.vm = .none) (hcl : s.vm.findClass E = some ce.cls)
    (hx : ∀ t : State, t.heap = H → s.vm.Alike t.vm → XC E s t) (hf : ∀ z ∈ locs, free z.base) (hc : cells ≤ mc) (hs : slots ≤ ms) :
    vx_W p l e R s m args below meth c H locs cells slots (vx_MQ below Qc XC args s mc ms free) (F0 m pc ls rest) q := by
  intro T hT X
  have hpl : e.platform.magicAccessors = ({} : Platform).magicAccessors := by rw [X.admits.platform]
  obtain ⟨vm', hW', X', st⟩ := X.outThrough hlocks q (g := F0 m pc ls rest) rfl rfl rfl (cell := ce) (by rw [hT]; exact hcell) (by rw [hv]; rfl)
    (by obtain ⟨k9, h9, -⟩ := Vm.findClass_spec hcl; exact ⟨k9, h9⟩) (fun z hz => by
      rcases hpass z hz with h | ⟨hz0, nm, hl1, hn1⟩
      · exact Or.inl h
      · obtain ⟨c6, hc6, hcl6⟩ := Cond.classLink_spec hown hl1 e.platform hpl
        obtain ⟨a8, b8, h1, h2, h3⟩ := hn1
        cases Option.some.inj (h1.symm.trans hcl)
        cases Option.some.inj (h2.symm.trans hc6)
        exact Or.inr ⟨hz0, _, hcl6, h3⟩)
  obtain ⟨g₀, hfr⟩ := X'.frames_eq
  have hcell9 : ((T.setVm vm').setFrames (.throwing q :: below)).heap[q]? = some ce := by
    show T.heap[q]? = some ce
    rw [hT]; exact hcell
  have hend : Ended ((T.setVm vm').setFrames (.throwing q :: below)) below (.threw q) := State.frames_setFrames _ (State.cur_lt_of_frames hfr)
  refine ⟨(T.setVm vm').setFrames (.throwing q :: below), ?_, .threw q, X'.here.running, hend, Or.inr ⟨q, rfl, E, ce, locs, hx _ hT (X'.ends _).1.alike, hcell9, hv, hcl, (X'.ends _).1, (X'.ends _).2.mono hc hs, hf⟩⟩
  rw [X.pushThrowing_eq]
  exact st
/-- a thing of a world lies in the heap -/
theorem vx_lt {D : va_G} {cl : List vw_C} {ws : va_W} {H1 : Heap} (h : va_P D cl ws H1) {k : Nat} {q : Nat × va_E} (hk : ws[k]? = some q) : q.1 < H1.size := (h k q hk).lt
end VXS
/-! ===== END ===== -/
/-! ===== BEGIN methods with a table of their own: called by a name, returning or throwing ===== -/
section VXH
/-! vx_backW, vx_callVX, vx_callSX, vx_callVW, vx_runVW, vx_runVX, vx_runSX, vx_ofWH follow the same proofs as their sisters above (Free/Laws.lean, Shelf42/LK1.lean); vx_outP calls Shelf42/NT130.lean (outThrough). -/
section
variable {l : Launch} {R : Room} {p : Program} {e : Env} {below : List Frame} {s : State} {sargs : Array Value} {y : MethodName} {len W9 : Nat}
theorem vx_backW {ws : List Cond} {rm : Room} {Pc : Array Value → State → Prop} {Qc : Array Value → State → Outcome → State → Prop} {XC : String → State → State → Prop} {mc ms : Nat} {free : Addr → Prop} {bytes : ByteArray} {maxL : Nat} {ret : Option FieldType} {hh : List (Nat × Nat × Nat × Nat)}
    (hM : vx_Met l y ws rm Pc Qc XC mc ms free) (hblind : FrameBlind Pc) (hrc : rm.cells = mc) (hrs : rm.slots = ms)
    (hframes : rm.frames + 1 ≤ R.frames) (hlocals : W9 + (maxL + 11) + rm.locals ≤ R.locals)
    (hws : ∀ w ∈ ws, ∀ a' U, s.WarmedH U.vm → w.before a' U = true) (hcode : Cond.codeWith y bytes maxL ret hh ∈ ws) (hinit : ∀ a' U, s.WarmedH U.vm → (Cond.initialized y.cls).before a' U = true) :
    vx_Back l R p e below s sargs y len W9 (PreOf R mc ms Pc) (PostOf Qc mc ms free) (vx_Post XC mc ms free) := by
  intro m meth c A g ig mk a X hg hsize hdg hW hn hp
  have h1 : (headSpec ws rm).pre.before a A.U = true := atoms_intro fun w hw => hws w hw _ _ X.warmed
  have h2 : (Cond.codeWith y bytes maxL ret hh).before a A.U = true := hws _ hcode _ _ X.warmed
  have h3 : (Cond.initialized y.cls).before a A.U = true := hinit _ _ X.warmed
  have h4 : A.cells + (headSpec ws rm).room.cells ≤ R.cells := by rw [show (headSpec ws rm).room.cells = mc from hrc]; exact hp.1
  have h5 : A.slots + (headSpec ws rm).room.slots ≤ R.slots := by rw [show (headSpec ws rm).room.slots = ms from hrs]; exact hp.2.1
  have hPc : Pc a (A.U.calling g mk a) := hblind _ _ _ _ hp.2.2
  obtain ⟨U, Ls, c0, s0⟩ := A
  dsimp only [Pt.U, Pt.locs, Pt.cells, Pt.slots] at h1 h2 h3 h4 h5 X hn hPc ⊢
  obtain ⟨m9, methY, cY, hn9, hmY, hcY, -, hlY, -⟩ := Cond.codeWith_spec h2
  cases Option.some.inj (hn9.symm.trans hn)
  obtain ⟨kY, hkY, -⟩ := className_of_methodNamed hn
  have hinitY : kY.init = .initialized := Cond.initialized_spec (findClass_of_methodNamed hn) hkY h3
  have h : At U g.method c below := by rw [hg]; exact X.here
  have hlocals9 : W9 + (maxL + 11) + (headSpec ws rm).room.locals ≤ R.locals := hlocals
  have happ : (headSpec ws rm).appliesLoose y e.platform (U.calling g mk a) = true :=
    Spec.appliesLoose_calling (g := g) h hdg hn hkY hinitY
      (X.room_calling (g := g) (R' := (headSpec ws rm).room) hsize hmY hcY hframes (by rw [hlY]; omega) h4 h5) h1
  obtain ⟨mid, hmid⟩ := h.above
  have hfr : (U.setTop g).frames = (.java g :: mid) ++ below := by rw [State.frames_setTop' g h.top, hmid]; rfl
  obtain ⟨o, s₂, hsteps, -, hend, hq⟩ := Steps.callFree hM p X.admits X.cas X.clock (acts := []) hfr happ hPc trivial
  have hq' : vx_Q Qc XC mc ms free a (U.calling g mk a) o s₂ := hq
  rw [State.frames_setTop' g h.top] at hend
  obtain ⟨g₀, hg0⟩ := Option.isSome_iff_exists.mp h.top
  obtain ⟨r, hr⟩ := State.topJava?_eq_some.mp hg0
  have hr' : (({ U with heap := s₂.heap, slotsUsed := s₂.slotsUsed } : State).setVm s₂.vm).frames = .java g₀ :: r := hr
  rcases hq' with ⟨hqc, L, hfe, hL⟩ | ⟨q, rfl, E, ce, L, hx, hce, hcv, hcl, hW₂, hsm, hL⟩
  · obtain ⟨⟨v, rfl⟩, hW₂, e2, q2, q3, q4, q5, q6⟩ := id hfe
    have e3 : s₂ = ({ (U.calling g mk a).setFrames s₂.frames with heap := s₂.heap, slotsUsed := s₂.slotsUsed } : State).setVm s₂.vm := by
      have : s₂ = ({ s₂ with vm := (U.calling g mk a).vm } : State).setVm s₂.vm := rfl
      rw [e2] at this
      exact this
    obtain ⟨c₂, i₂, len₂, hc₂, hd₂, hf₂⟩ := hend
    have hW' : U.WarmedH s₂.vm := hW₂
    have hcc : c₂ = c := by
      have h1 : s₂.code? g.method = U.code? g.method := by
        rw [State.code?_eq, State.code?_eq, hW'.alike.method?]
      exact Option.some.inj (hc₂.symm.trans (h1.trans h.code))
    subst hcc
    have hlen : len₂ = len := by rw [hdg] at hd₂; cases hd₂; rfl
    subst hlen
    have hs₂ : s₂ = (({ U with heap := s₂.heap, slotsUsed := s₂.slotsUsed } : State).setVm s₂.vm).setTop { g with pc := g.pc + len₂, stack := v.toList ++ g.stack } := by
      refine e3.trans ?_
      rw [hf₂, State.calling_eq h.top, State.setFrames_setFrames, State.setTop_of_frames _ hr', hr]
      rfl
    have hsame : U.sameButNew ({ U with heap := s₂.heap, slotsUsed := s₂.slotsUsed } : State) L mc ms := by
      refine ⟨?_, q2, q3, q4, q5, q6⟩
      obtain ⟨t, ht, -⟩ := State.frames_cons hr
      show ({ U with heap := s₂.heap, slotsUsed := s₂.slotsUsed } : State) = { U.setFrames U.frames with heap := s₂.heap, slotsUsed := s₂.slotsUsed }
      rw [State.setFrames_self ht]
    subst hg
    refine Or.inl ⟨v, ⟨(({ U with heap := s₂.heap, slotsUsed := s₂.slotsUsed } : State).setVm s₂.vm), Ls ++ L, c0 + mc, s0 + ms⟩,
      ⟨X.admits, X.cas, X.clock, X.frames, X.room, X.hears, X.method, X.code, (X.here.setHeapUsed s₂.heap s₂.slotsUsed).setVm hW'.alike, X.tail, State.WarmedH.trans X.warmed hW', X.limits, X.bytes, X.same.trans (hsame.setVm s.vm)⟩,
      ⟨g, mk, s₂, L, rfl, rfl, hqc, rfl, hL, rfl, rfl⟩, ?_⟩
    show Steps p.tables e below _ ((({ U with heap := s₂.heap, slotsUsed := s₂.slotsUsed } : State).setVm s₂.vm).setTop { g with pc := g.pc + len₂, stack := v.toList ++ g.stack })
    rw [← hs₂]
    exact hsteps
  · obtain ⟨e2, q2, q3, q4, q5, q6⟩ := id hsm
    have e3 : s₂ = ({ (U.calling g mk a).setFrames s₂.frames with heap := s₂.heap, slotsUsed := s₂.slotsUsed } : State).setVm s₂.vm := by
      have : s₂ = ({ s₂ with vm := (U.calling g mk a).vm } : State).setVm s₂.vm := rfl
      rw [e2] at this
      exact this
    have hf₂ : s₂.frames = .throwing q :: .java g :: U.frames.tail := hend
    have hW' : U.WarmedH s₂.vm := hW₂
    have hs₂ : s₂ = ((({ U with heap := s₂.heap, slotsUsed := s₂.slotsUsed } : State).setVm s₂.vm).setTop g).pushFrame (.throwing q) := by
      refine e3.trans ?_
      rw [hf₂, State.calling_eq h.top, State.setFrames_setFrames, State.pushFrame, State.frames_setTop _ hr', State.setTop_of_frames _ hr', State.setFrames_setFrames, hr]
      rfl
    have hsame : U.sameButNew ({ U with heap := s₂.heap, slotsUsed := s₂.slotsUsed } : State) L mc ms := by
      refine ⟨?_, q2, q3, q4, q5, q6⟩
      obtain ⟨t, ht, -⟩ := State.frames_cons hr
      show ({ U with heap := s₂.heap, slotsUsed := s₂.slotsUsed } : State) = { U.setFrames U.frames with heap := s₂.heap, slotsUsed := s₂.slotsUsed }
      rw [State.setFrames_self ht]
    subst hg
    refine Or.inr ⟨q, ⟨(({ U with heap := s₂.heap, slotsUsed := s₂.slotsUsed } : State).setVm s₂.vm), Ls ++ L, c0 + mc, s0 + ms⟩,
      ⟨X.admits, X.cas, X.clock, X.frames, X.room, X.hears, X.method, X.code, (X.here.setHeapUsed s₂.heap s₂.slotsUsed).setVm hW'.alike, X.tail, State.WarmedH.trans X.warmed hW', X.limits, X.bytes, X.same.trans (hsame.setVm s.vm)⟩,
      ⟨g, mk, s₂, L, E, ce, rfl, rfl, hx, hce, hcv, hcl, rfl, hL, rfl, rfl⟩, ?_⟩
    show Steps p.tables e below _ (((({ U with heap := s₂.heap, slotsUsed := s₂.slotsUsed } : State).setVm s₂.vm).setTop g).pushFrame (.throwing q))
    rw [← hs₂]
    exact hsteps
end
variable {p : Program} {l : Launch} {e : Env} {R : Room} {s : State} {m : MethodId} {args : Array Value} {below : List Frame} {meth : Method} {c : Code} {T : State} {H : Heap} {locs : List Loc} {cells slots : Nat}
theorem vx_callVX (X : Stand p l e R s m args below meth c T locs cells slots) (hexec : p.tables.exec = Jvm.exec) {own C : String} {index : Nat} {y : MethodName} {bytes : ByteArray} {maxL : Nat} {ret : Option FieldType} {hh : List (Nat × Nat × Nat × Nat)}
    (hown : s.vm.findClass own = some m.cls) (hlink : (Cond.methodLink own index y).before args s = true) (hinst : (Cond.instanceMethod y).before args s = true) (hsel : (Cond.selects C y y).before args s = true)
    (hcode : (Cond.codeWith y bytes maxL ret hh).before args s = true) (hy : y.cls ≠ "java/lang/invoke/MethodHandle" ∧ y.cls ≠ "java/lang/invoke/VarHandle")
    {W9 : Nat} {Pre : Pt → Array Value → Prop} {Post : Pt → Array Value → Option Value → Pt → Prop} {PostX : Pt → Array Value → Addr → Pt → Prop} (hK : vx_Back l R p e below s args y 3 W9 Pre Post PostX)
    {b : Addr} {cellB : Cell} (hcell : T.heap[b]? = some cellB) (hobj : cellB.vm.isStatics = false) (hcls : s.vm.findClass C = some cellB.cls)
    {g : JFrame} (hg : g.method = m) (hsize : g.locals.size = c.maxLocals) {argsL rest : List Value} (hlen : ∀ sig, parseMethodDescriptor y.desc = some sig → argsL.length = sig.parameters.length)
    (hstack : g.stack = argsL.reverse ++ .ref b :: rest) (hW : 2 * g.monitorRoom + (rest.map fun v => v.category).sum ≤ W9) (hdg : decode c.code g.pc = .ok (.invokevirtual index, 3))
    (hpre : ∀ vm₁, s.WarmedH vm₁ → Pre ⟨T.setVm vm₁, locs, cells, slots⟩ (Value.ref b :: argsL).toArray) :
    (∃ (v : Option Value) (vm₁ : Vm) (B : Pt), s.WarmedH vm₁ ∧ Stand p l e R s m args below meth c B.U B.locs B.cells B.slots ∧ Post ⟨T.setVm vm₁, locs, cells, slots⟩ (Value.ref b :: argsL).toArray v B ∧
      ∀ target, Steps p.tables e below (B.U.setTop { g with pc := g.pc + 3, stack := v.toList ++ rest }) target → Steps p.tables e below (T.setTop g) target) ∨
    (∃ (q : Addr) (vm₁ : Vm) (B : Pt), s.WarmedH vm₁ ∧ Stand p l e R s m args below meth c B.U B.locs B.cells B.slots ∧ PostX ⟨T.setVm vm₁, locs, cells, slots⟩ (Value.ref b :: argsL).toArray q B ∧
      Steps p.tables e below (T.setTop g) ((B.U.setTop { g with stack := rest }).pushFrame (.throwing q))) := by
  obtain ⟨mk, methM, hnamed, hmethM, hstM, habM⟩ := Cond.instanceMethod_spec hinst
  obtain ⟨m8, methM', cM, hn8, hmethM', -, -, -, -, -, -, hsigM⟩ := Cond.codeWith_spec hcode
  cases Option.some.inj (hn8.symm.trans hnamed)
  cases hmethM.symm.trans hmethM'
  obtain ⟨c2, r2, m2, q1, q2, q3, q4, kP, hkP, hkPi⟩ := Cond.selects_spec hsel
  cases hcls.symm.trans q1
  cases (State.methodFound?_of_named hnamed hy).symm.trans q2
  cases hnamed.symm.trans q3
  have hselP : selectMethod e.platform s.vm cellB.cls mk = .method mk := by rw [Launch.admits_selectMethod X.admits]; exact q4
  obtain ⟨vm₁, X₁, hstep₁⟩ := X.invokevirtual hexec hown hlink hnamed hmethM hstM hkP hkPi hy (a := b) (cell := cellB) hcell
    (fun z h => by rw [h] at hobj; cases hobj) hselP hmethM habM hkP hkPi (g := g) hg (argsL := argsL) (rest := rest) (hlen _ hsigM) hstack hdg
  rcases hK m meth c ⟨T.setVm vm₁, locs, cells, slots⟩ { g with stack := rest } (.invokevirtual index) mk (Value.ref b :: argsL).toArray X₁ hg hsize hdg hW (X₁.named hnamed) (hpre vm₁ X₁.warmed) with ⟨v, B, X', hpost, hsteps⟩ | ⟨q, B, X', hpost, hsteps⟩
  · exact Or.inl ⟨v, vm₁, B, X₁.warmed, X', hpost, fun target h => hstep₁ _ fun acts => by rw [doInvoke_state]; exact hsteps.trans h⟩
  · exact Or.inr ⟨q, vm₁, B, X₁.warmed, X', hpost, hstep₁ _ fun acts => by rw [doInvoke_state]; exact hsteps⟩
theorem vx_callSX (X : Stand p l e R s m args below meth c T locs cells slots) (hexec : p.tables.exec = Jvm.exec) {own : String} {index : Nat} {y : MethodName} {bytes : ByteArray} {maxL : Nat} {ret : Option FieldType} {hh : List (Nat × Nat × Nat × Nat)}
    (hown : s.vm.findClass own = some m.cls) (hlink : (Cond.methodLink own index y).before args s = true) (hstat : (Cond.static y).before args s = true) (hinit : (Cond.initialized y.cls).before args s = true)
    (hcode : (Cond.codeWith y bytes maxL ret hh).before args s = true) (hy : y.cls ≠ "java/lang/invoke/MethodHandle" ∧ y.cls ≠ "java/lang/invoke/VarHandle")
    {W9 : Nat} {Pre : Pt → Array Value → Prop} {Post : Pt → Array Value → Option Value → Pt → Prop} {PostX : Pt → Array Value → Addr → Pt → Prop} (hK : vx_Back l R p e below s args y 3 W9 Pre Post PostX)
    {g : JFrame} (hg : g.method = m) (hsize : g.locals.size = c.maxLocals) {argsL rest : List Value} (hlen : ∀ sig, parseMethodDescriptor y.desc = some sig → argsL.length = sig.parameters.length)
    (hstack : g.stack = argsL.reverse ++ rest) (hW : 2 * g.monitorRoom + (rest.map fun v => v.category).sum ≤ W9) (hdg : decode c.code g.pc = .ok (.invokestatic index, 3))
    (hpre : ∀ vm₁, s.WarmedH vm₁ → Pre ⟨T.setVm vm₁, locs, cells, slots⟩ argsL.toArray) :
    (∃ (v : Option Value) (vm₁ : Vm) (B : Pt), s.WarmedH vm₁ ∧ Stand p l e R s m args below meth c B.U B.locs B.cells B.slots ∧ Post ⟨T.setVm vm₁, locs, cells, slots⟩ argsL.toArray v B ∧
      ∀ target, Steps p.tables e below (B.U.setTop { g with pc := g.pc + 3, stack := v.toList ++ rest }) target → Steps p.tables e below (T.setTop g) target) ∨
    (∃ (q : Addr) (vm₁ : Vm) (B : Pt), s.WarmedH vm₁ ∧ Stand p l e R s m args below meth c B.U B.locs B.cells B.slots ∧ PostX ⟨T.setVm vm₁, locs, cells, slots⟩ argsL.toArray q B ∧
      Steps p.tables e below (T.setTop g) ((B.U.setTop { g with stack := rest }).pushFrame (.throwing q))) := by
  obtain ⟨mk, methM, cM, hnamed, hmethM, -, -, -, -, -, -, hsigM⟩ := Cond.codeWith_spec hcode
  have hstatic : methM.isStatic = true := Cond.static_spec hnamed hmethM hstat
  obtain ⟨kP, hkP, -⟩ := className_of_methodNamed hnamed
  have hinitP : kP.init = .initialized := Cond.initialized_spec (findClass_of_methodNamed hnamed) hkP hinit
  obtain ⟨vm₁, X₁, hstep₁⟩ := X.invokestatic hexec hown hlink hnamed hmethM hstatic hkP hinitP hy (g := g) hg (argsL := argsL) (rest := rest) (hlen _ hsigM) hstack hdg
  rcases hK m meth c ⟨T.setVm vm₁, locs, cells, slots⟩ { g with stack := rest } (.invokestatic index) mk argsL.toArray X₁ hg hsize hdg hW (X₁.named hnamed) (hpre vm₁ X₁.warmed) with ⟨v, B, X', hpost, hsteps⟩ | ⟨q, B, X', hpost, hsteps⟩
  · exact Or.inl ⟨v, vm₁, B, X₁.warmed, X', hpost, fun target h => hstep₁ _ fun acts => by rw [doInvoke_state]; exact hsteps.trans h⟩
  · exact Or.inr ⟨q, vm₁, B, X₁.warmed, X', hpost, hstep₁ _ fun acts => by rw [doInvoke_state]; exact hsteps⟩
theorem vx_callVW (X : Stand p l e R s m args below meth c T locs cells slots) (hexec : p.tables.exec = Jvm.exec) {own C : String} {index : Nat} {y : MethodName} {bytes : ByteArray} {maxL : Nat} {ret : Option FieldType} {hh : List (Nat × Nat × Nat × Nat)}
    (hown : s.vm.findClass own = some m.cls) (hlink : (Cond.methodLink own index y).before args s = true) (hinst : (Cond.instanceMethod y).before args s = true) (hsel : (Cond.selects C y y).before args s = true)
    (hcode : (Cond.codeWith y bytes maxL ret hh).before args s = true) (hy : y.cls ≠ "java/lang/invoke/MethodHandle" ∧ y.cls ≠ "java/lang/invoke/VarHandle")
    {W9 : Nat} {Pre : Pt → Array Value → Prop} {Post : Pt → Array Value → Option Value → Pt → Prop} (hK : Back l R p e below s args y 3 W9 Pre Post)
    {b : Addr} {cellB : Cell} (hcell : T.heap[b]? = some cellB) (hobj : cellB.vm.isStatics = false) (hcls : s.vm.findClass C = some cellB.cls)
    {g : JFrame} (hg : g.method = m) (hsize : g.locals.size = c.maxLocals) {argsL rest : List Value} (hlen : ∀ sig, parseMethodDescriptor y.desc = some sig → argsL.length = sig.parameters.length)
    (hstack : g.stack = argsL.reverse ++ .ref b :: rest) (hW : 2 * g.monitorRoom + (rest.map fun v => v.category).sum ≤ W9) (hdg : decode c.code g.pc = .ok (.invokevirtual index, 3))
    (hpre : ∀ vm₁, s.WarmedH vm₁ → Pre ⟨T.setVm vm₁, locs, cells, slots⟩ (Value.ref b :: argsL).toArray) :
    ∃ (v : Option Value) (vm₁ : Vm) (B : Pt), s.WarmedH vm₁ ∧ Stand p l e R s m args below meth c B.U B.locs B.cells B.slots ∧ Post ⟨T.setVm vm₁, locs, cells, slots⟩ (Value.ref b :: argsL).toArray v B ∧
      ∀ target, Steps p.tables e below (B.U.setTop { g with pc := g.pc + 3, stack := v.toList ++ rest }) target → Steps p.tables e below (T.setTop g) target := by
  obtain ⟨mk, methM, hnamed, hmethM, hstM, habM⟩ := Cond.instanceMethod_spec hinst
  obtain ⟨m8, methM', cM, hn8, hmethM', -, -, -, -, -, -, hsigM⟩ := Cond.codeWith_spec hcode
  cases Option.some.inj (hn8.symm.trans hnamed)
  cases hmethM.symm.trans hmethM'
  obtain ⟨c2, r2, m2, q1, q2, q3, q4, kP, hkP, hkPi⟩ := Cond.selects_spec hsel
  cases hcls.symm.trans q1
  cases (State.methodFound?_of_named hnamed hy).symm.trans q2
  cases hnamed.symm.trans q3
  have hselP : selectMethod e.platform s.vm cellB.cls mk = .method mk := by rw [Launch.admits_selectMethod X.admits]; exact q4
  obtain ⟨vm₁, X₁, hstep₁⟩ := X.invokevirtual hexec hown hlink hnamed hmethM hstM hkP hkPi hy (a := b) (cell := cellB) hcell
    (fun z h => by rw [h] at hobj; cases hobj) hselP hmethM habM hkP hkPi (g := g) hg (argsL := argsL) (rest := rest) (hlen _ hsigM) hstack hdg
  obtain ⟨v, B, X', hpost, hsteps⟩ := hK m meth c ⟨T.setVm vm₁, locs, cells, slots⟩ { g with stack := rest } (.invokevirtual index) mk (Value.ref b :: argsL).toArray X₁ hg hsize hdg hW (X₁.named hnamed) (hpre vm₁ X₁.warmed)
  exact ⟨v, vm₁, B, X₁.warmed, X', hpost, fun target h => hstep₁ _ fun acts => by rw [doInvoke_state]; exact hsteps.trans h⟩
abbrev vx_CVW (R : Room) (s : State) (args : Array Value) (own C : String) (index : Nat) (y : MethodName) (bytes : ByteArray) (maxL : Nat) (ret : Option FieldType) (hh : List (Nat × Nat × Nat × Nat)) (ws : List Cond) (rm : Room) (mc ms n : Nat) : Prop :=
  (rm.cells = mc ∧ rm.slots = ms ∧ rm.frames + 1 ≤ R.frames ∧ 8 + (maxL + 11) + rm.locals ≤ R.locals ∧ (∀ w ∈ ws, ∀ (a' : Array Value) (U : State), s.WarmedH U.vm → w.before a' U = true) ∧ Cond.codeWith y bytes maxL ret hh ∈ ws) ∧
  (Cond.codeWith y bytes maxL ret hh).before args s = true ∧ (Cond.initialized y.cls).before args s = true ∧ (y.cls ≠ "java/lang/invoke/MethodHandle" ∧ y.cls ≠ "java/lang/invoke/VarHandle") ∧
  (∀ sig, parseMethodDescriptor y.desc = some sig → n = sig.parameters.length) ∧ (Cond.methodLink own index y).before args s = true ∧ (Cond.instanceMethod y).before args s = true ∧ (Cond.selects C y y).before args s = true
theorem vx_cwVW {own C : String} {index maxL mc ms : Nat} {y : MethodName} {bytes : ByteArray} {ret : Option FieldType} {hh : List (Nat × Nat × Nat × Nat)} {Ts ws ws' : List Cond} {rm : Room} (n : Nat) (ht : ∀ w ∈ Ts, w.before args s = true) (hT : GoodIn Ts (wsV own index C y ws)) (hw : ws = Cond.codeWith y bytes maxL ret hh :: ws') (hrc : rm.cells = mc) (hrs : rm.slots = ms)
    (hd : y.cls = C ∧ y.cls ≠ "java/lang/invoke/MethodHandle" ∧ y.cls ≠ "java/lang/invoke/VarHandle" ∧ (parseMethodDescriptor y.desc).map (fun d => d.parameters.length) = some n) (hR : rm.frames + 1 ≤ R.frames ∧ 8 + (maxL + 11) + rm.locals ≤ R.locals) :
    vx_CVW R s args own C index y bytes maxL ret hh ws rm mc ms n := by
  obtain ⟨hC, hd⟩ := hd
  subst hC
  have ok : ∀ w ∈ wsV own index y.cls y ws, w.before args s = true := fun w h => ht w (hT w h).1
  have hG : GoodIn Ts ws := fun w h => hT w (by unfold wsV; exact List.mem_append_right _ h)
  have hc : Cond.codeWith y bytes maxL ret hh ∈ ws := by rw [hw]; exact List.mem_cons_self
  refine ⟨⟨hrc, hrs, hR.1, hR.2, pay_in ht hG, hc⟩, ht _ (hG _ hc).1, ok _ (by simp [wsV]), ⟨hd.1, hd.2.1⟩, fun sig h => ?_, ok _ (by simp [wsV]), ok _ (by simp [wsV]), ok _ (by simp [wsV])⟩
  have h2 := hd.2.2
  rw [h] at h2
  exact (Option.some.inj h2).symm
theorem vx_runVW {y : MethodName} {bytes cc : ByteArray} {maxL nL mc ms n index : Nat} {ret : Option FieldType} {hh : List (Nat × Nat × Nat × Nat)} {ws : List Cond} {rm : Room} {Pc : Array Value → State → Prop} {Qc : Array Value → State → Outcome → State → Prop} {free : Addr → Prop} {Ts : List Cond} {own C : String} {b : Addr} {As rest : List Value} {g : JFrame}
    (S : CallFix p m c cc nL s args Ts own) (hM : Met l y ws rm Pc Qc mc ms free) (cw : vx_CVW R s args own C index y bytes maxL ret hh ws rm mc ms n) (hp : PreV s H C b Pc As)
    (hg : g.method = m) (hn : As.length = n) (hsize : g.locals.size = nL) (hstack : g.stack = As.reverse ++ .ref b :: rest) (hW : 2 * g.monitorRoom + (rest.map fun v => v.category).sum ≤ 8) (hdg : decode cc g.pc = .ok (.invokevirtual index, 3)) (hf : cells + mc ≤ R.cells ∧ slots + ms ≤ R.slots) :
    va_Run p l e R s m args below meth c H locs cells slots mc ms g rest (Qc (Value.ref b :: As).toArray) free := by
  obtain ⟨⟨hrc, hrs, hfr, hlo, hws, hcw⟩, hcode, hini, hy, hlen, hl, hin, hse⟩ := cw
  have hK : Back l R p e below s args y 3 8 (PreOf R mc ms Pc) (PostOf Qc mc ms free) := va_backW (hh := hh) (bytes := bytes) (maxL := maxL) (ret := ret) hM hp.1 hrc hrs hfr hlo hws hcw (fun a' U hW => word_at hW (Or.inl (by first | rfl | simp [Cond.onTables, Cond.keeps, Cond.steady])) hini)
  obtain ⟨hx, hb, hml, ho, -⟩ := S
  obtain ⟨-, ⟨cellB, hcB, hoB, hclB⟩, hPc⟩ := hp
  intro T hT X
  obtain ⟨v, vm₁, ⟨U', l2, c2, s2⟩, hW₁, X', ⟨g', mk, t, L, e1, e2, hq, h1, hL, h2, h3⟩, st⟩ := vx_callVW X hx (C := C) (hh := hh) (bytes := bytes) (maxL := maxL) (ret := ret) ho hl hin hse hcode hy hK (by rw [hT]; exact hcB) hoB hclB hg (hsize.trans hml.symm) (argsL := As) (rest := rest) (fun sig h => hn.trans (hlen sig h)) hstack hW (by rw [hb]; exact hdg)
    (fun vm₁ hW₁ => ⟨hf.1, hf.2, hPc (T.setVm vm₁) hT hW₁⟩)
  dsimp only [Pt.U, Pt.locs, Pt.cells, Pt.slots] at X' e1 e2 h1 h2 h3 st
  subst h1; subst h2; subst h3
  exact ⟨v, (T.setVm vm₁).calling g' mk (Value.ref b :: As).toArray, t, U', L, hT, X', hL, e1, e2, hq, st⟩
section
variable {y : MethodName} {bytes cc : ByteArray} {maxL nL mc ms n index : Nat} {ret : Option FieldType} {ws : List Cond} {rm : Room} {Pc : Array Value → State → Prop} {Qc : Array Value → State → Outcome → State → Prop} {XC : String → State → State → Prop} {free : Addr → Prop} {Ts : List Cond} {own C : String} {b : Addr} {As rest : List Value} {g : JFrame}
theorem vx_runVX {hh : List (Nat × Nat × Nat × Nat)} (S : CallFix p m c cc nL s args Ts own) (hM : vx_Met l y ws rm Pc Qc XC mc ms free) (cw : vx_CVW R s args own C index y bytes maxL ret hh ws rm mc ms n) (hp : PreV s H C b Pc As)
    (hg : g.method = m) (hn : As.length = n) (hsize : g.locals.size = nL) (hstack : g.stack = As.reverse ++ .ref b :: rest) (hW : 2 * g.monitorRoom + (rest.map fun v => v.category).sum ≤ 8) (hdg : decode cc g.pc = .ok (.invokevirtual index, 3)) (hf : cells + mc ≤ R.cells ∧ slots + ms ≤ R.slots) :
    vx_Run p l e R s m args below meth c H locs cells slots mc ms g rest (Qc (Value.ref b :: As).toArray) XC free := by
  obtain ⟨⟨hrc, hrs, hfr, hlo, hws, hcw⟩, hcode, hini, hy, hlen, hl, hin, hse⟩ := cw
  have hK : vx_Back l R p e below s args y 3 8 (PreOf R mc ms Pc) (PostOf Qc mc ms free) (vx_Post XC mc ms free) := vx_backW (hh := hh) (bytes := bytes) (maxL := maxL) (ret := ret) hM hp.1 hrc hrs hfr hlo hws hcw (fun a' U hW => word_at hW (Or.inl (by first | rfl | simp [Cond.onTables, Cond.keeps, Cond.steady])) hini)
  obtain ⟨hx, hb, hml, ho, -⟩ := S
  obtain ⟨-, ⟨cellB, hcB, hoB, hclB⟩, hPc⟩ := hp
  intro T hT X
  rcases vx_callVX X hx (C := C) (hh := hh) (bytes := bytes) (maxL := maxL) (ret := ret) ho hl hin hse hcode hy hK (by rw [hT]; exact hcB) hoB hclB hg (hsize.trans hml.symm) (argsL := As) (rest := rest) (fun sig h => hn.trans (hlen sig h)) hstack hW (by rw [hb]; exact hdg)
    (fun vm₁ hW₁ => ⟨hf.1, hf.2, hPc (T.setVm vm₁) hT hW₁⟩) with ⟨v, vm₁, ⟨U', l2, c2, s2⟩, hW₁, X', ⟨g', mk, t, L, e1, e2, hq, h1, hL, h2, h3⟩, st⟩ | ⟨q, vm₁, ⟨U', l2, c2, s2⟩, hW₁, X', ⟨g', mk, t, L, E, ce, e1, e2, hq, hce, hcv, hcl, h1, hL, h2, h3⟩, st⟩
  · dsimp only [Pt.U, Pt.locs, Pt.cells, Pt.slots] at X' e1 e2 h1 h2 h3 st
    subst h1; subst h2; subst h3
    exact Or.inl ⟨v, (T.setVm vm₁).calling g' mk (Value.ref b :: As).toArray, t, U', L, hT, X', hL, e1, e2, hq, st⟩
  · dsimp only [Pt.U, Pt.locs, Pt.cells, Pt.slots] at X' e1 e2 h1 h2 h3 st hcl
    subst h1; subst h2; subst h3
    exact Or.inr ⟨q, (T.setVm vm₁).calling g' mk (Value.ref b :: As).toArray, t, U', L, E, ce, hT, X', hL, e1, e2, hq, hce, hcv, vx_cls hW₁ hcl, st⟩
theorem vx_runSX {hh : List (Nat × Nat × Nat × Nat)} (S : CallFix p m c cc nL s args Ts own) (hM : vx_Met l y ws rm Pc Qc XC mc ms free) (cw : vx_CSW R s args own index y bytes maxL ret hh ws rm mc ms n) (hp : PreS s H Pc As)
    (hg : g.method = m) (hn : As.length = n) (hsize : g.locals.size = nL) (hstack : g.stack = As.reverse ++ rest) (hW : 2 * g.monitorRoom + (rest.map fun v => v.category).sum ≤ 8) (hdg : decode cc g.pc = .ok (.invokestatic index, 3)) (hf : cells + mc ≤ R.cells ∧ slots + ms ≤ R.slots) :
    vx_Run p l e R s m args below meth c H locs cells slots mc ms g rest (Qc As.toArray) XC free := by
  obtain ⟨⟨hrc, hrs, hfr, hlo, hws, hcw⟩, hcode, hini, hy, hlen, hl, hstt⟩ := cw
  have hK : vx_Back l R p e below s args y 3 8 (PreOf R mc ms Pc) (PostOf Qc mc ms free) (vx_Post XC mc ms free) := vx_backW (hh := hh) (bytes := bytes) (maxL := maxL) (ret := ret) hM hp.1 hrc hrs hfr hlo hws hcw (fun a' U hW => word_at hW (Or.inl (by first | rfl | simp [Cond.onTables, Cond.keeps, Cond.steady])) hini)
  obtain ⟨hx, hb, hml, ho, -⟩ := S
  intro T hT X
  rcases vx_callSX X hx (hh := hh) (bytes := bytes) (maxL := maxL) (ret := ret) ho hl hstt hini hcode hy hK hg (hsize.trans hml.symm) (argsL := As) (rest := rest) (fun sig h => hn.trans (hlen sig h)) hstack hW (by rw [hb]; exact hdg)
    (fun vm₁ hW₁ => ⟨hf.1, hf.2, hp.2 (T.setVm vm₁) hT hW₁⟩) with ⟨v, vm₁, ⟨U', l2, c2, s2⟩, hW₁, X', ⟨g', mk, t, L, e1, e2, hq, h1, hL, h2, h3⟩, st⟩ | ⟨q, vm₁, ⟨U', l2, c2, s2⟩, hW₁, X', ⟨g', mk, t, L, E, ce, e1, e2, hq, hce, hcv, hcl, h1, hL, h2, h3⟩, st⟩
  · dsimp only [Pt.U, Pt.locs, Pt.cells, Pt.slots] at X' e1 e2 h1 h2 h3 st
    subst h1; subst h2; subst h3
    exact Or.inl ⟨v, (T.setVm vm₁).calling g' mk As.toArray, t, U', L, hT, X', hL, e1, e2, hq, st⟩
  · dsimp only [Pt.U, Pt.locs, Pt.cells, Pt.slots] at X' e1 e2 h1 h2 h3 st hcl
    subst h1; subst h2; subst h3
    exact Or.inr ⟨q, (T.setVm vm₁).calling g' mk As.toArray, t, U', L, E, ce, hT, X', hL, e1, e2, hq, hce, hcv, vx_cls hW₁ hcl, st⟩
end
end VXH
theorem vx_ofWH {l : Launch} {y : MethodName} {ws ws' : List Cond} {rm : Room} {Pc : Array Value → State → Prop} {Qc : Array Value → State → Outcome → State → Prop} {XC : String → State → State → Prop} {mc ms : Nat} {free : Addr → Prop} {cc : ByteArray} {maxL : Nat} {ret : Option FieldType} {hh : List (Nat × Nat × Nat × Nat)}
    (hy : plainName y.cls = true) (hw : ws = Cond.codeWith y cc maxL ret hh :: ws')
    (body : ∀ p e s m args below meth c s₁, BodyLoose p l y (headSpec ws rm) cc maxL ret e s m args below meth c s₁ → c.maxLocals = maxL → Pc args s →
      W p l e (headSpec ws rm).room s m args below meth c s.heap [] 0 0 (vx_MQ below Qc XC args s mc ms free) (entryFrame m args maxL)) : vx_Met l y ws rm Pc Qc XC mc ms free := by
  refine MetFree.of_bodyS (code := cc) (maxLocals := maxL) (ret := ret) hy ?_ ?_
  · intro args s m h hn
    obtain ⟨m9, meth, c, hn9, h1, h2, h3, h4, -, h5, h6, -⟩ := Cond.codeWith_spec (atoms_spec (ws := ws) h _ (by rw [hw]; exact List.mem_cons_self))
    cases hn.symm.trans hn9
    exact ⟨meth, c, h1, h2, h3, h4, h5, h6⟩
  · intro p e s m args below meth c s₁ B hml hP _
    have hh0 : s₁.heap = s.heap := by rw [B.state]; rfl
    obtain ⟨t, a1, o, b1, b2, b3⟩ := body p e s m args below meth c s₁ B hml hP s₁ hh0 (Stand.of_body B)
    exact ⟨t, o, a1, b1, b2, b3⟩
/-! ===== END ===== -/

/-! ===== BEGIN what the machine throws by itself, no traces kept ===== -/
section VXM
set_option maxHeartbeats 1000000 in
/-- the machine throws cls with the message text, no traces kept: from its note over the frame g to 'throwing' over the same frame (follows the proofs of Stand.vmThrowsMessage, Shelf/KitTracedVmS.lean, and Stand.throwsMessageColdBareV, StandMessageColdV.lean, without the step out of the frame) -/
theorem vx_vmAt {p : Program} {l : Launch} {e : Env} {R : Room} {s : State} {m₀ : MethodId} {args : Array Value} {below : List Frame} {meth : Method} {c : Code} {W : State} {locs : List Loc} {cells slots : Nat}
    (X : Stand p l e R s m₀ args below meth c W locs cells slots) (hexec : p.tables.exec = Jvm.exec) (htr : e.platform.stackTraces = false) {cls : String} {names : List String} {text : String}
    (hcls : Bundle.fit cls = true) (hnames : ∀ n ∈ names, Bundle.fit n = true) (hsoe : (cls == "java/lang/StackOverflowError") = false) (hoom : (cls == "java/lang/OutOfMemoryError") = false)
    (h : ∀ a ∈ Bundle.messageArmAtoms cls names, a.before args s = true)
    (hlocs : ∀ x ∈ locs, ∀ cell, s.heap[x.base]? = some cell → cell.vm.isStatics = false)
    (htext : (text == notModelled) = false) (hlimit : ¬ (stringBytes (stringToUtf16 text)).size > e.platform.arrayLengthLimit) (hheap : ¬ (stringBytes (stringToUtf16 text)).size * componentBytes .byte > e.platform.maxHeapBytes)
    {g : JFrame} (hg : g.method = m₀) (hsize : g.locals.size = c.maxLocals)
    (hRframes : names.length + 4 < R.frames) (hRlocals : 2 * g.monitorRoom + (g.stack.map fun v => v.category).sum + 10240 ≤ R.locals) (hshort : 13 * names.length + 55 ≤ 10240)
    (hRcells : cells + 3 ≤ R.cells) (hRslots : slots + ((stringBytes (stringToUtf16 text)).size + 4 + 6) ≤ R.slots) (hlocks : meth.locks = false) :
    ∃ (S : State) (q : Addr) (ce : Cell), (∀ target, Steps p.tables e below ((S.setTop g).pushFrame (.throwing q)) target → Steps p.tables e below ((W.setTop g).pushFrame (.throwNew cls (some text) none)) target) ∧
      Stand p l e R s m₀ args below meth c S locs (cells + 3) (slots + ((stringBytes (stringToUtf16 text)).size + 4 + 6)) ∧ S.heap[q]? = some ce ∧ s.vm.findClass cls = some ce.cls ∧ ce.vm = .none := by
  have howns : e.platform.frameOwnsMonitors = true := by rw [X.admits.platform]
  have hfin : e.platform.finalization = false := by rw [X.admits.platform]
  have hpl : e.platform.magicAccessors = ({} : Platform).magicAccessors := by rw [X.admits.platform]
  have a : ∀ x, x ∈ Bundle.messageArmAtoms cls names → x.holds args s none s [] = true := fun x hx => h x hx
  obtain ⟨T, Z0, L, -, Y⟩ := ThrowableC.of_atoms (args := args) howns hfin hpl (fun x hx => h x (by simp [Bundle.messageArmAtoms, hx]))
  obtain ⟨Z, M, LZ, LM, hnZ⟩ := Init0T.ofS_atoms (args := args) hpl L Y (fun x hx => h x (by simp [Bundle.messageArmAtoms, hx]))
  obtain ⟨P1, Ps, hlen, L1, hL, hP1m, hlink1, hlink⟩ := Bundle.chainS (args := args) hpl hnZ names cls hcls hnames (fun x hx => h x (by simp [Bundle.messageArmAtoms, hx]))
  obtain ⟨Zs, LZs, hn4, hfitv, hfitc⟩ := StringT.of_atoms (args := args) (fun x hx => h x (by simp [Bundle.messageArmAtoms, hx]))
  have hfound : s.vm.findClass cls = some P1.m.cls := findClass_of_methodNamed hP1m
  obtain ⟨c1, kX, hc1, hk, hord, -, -, hn6⟩ := Cond.instantiable_spec (a (.instantiable cls 6) (by simp [Bundle.messageArmAtoms]))
  cases Option.some.inj (hc1.symm.trans hfound)
  have hinit := Cond.initialized_spec hfound hk (a (.initialized cls) (by simp [Bundle.messageArmAtoms]))
  have hctor : kX.findMethod "<init>" "(Ljava/lang/String;)V" = some P1.m.idx := findMethod_of_methodNamed hP1m hk
  have hsel0 : selectMethod e.platform s.vm P1.m.cls T.fill0 = .method T.fill0 := by
    obtain ⟨c2, r2, m2, q1, q2, q3, q4, -⟩ := Cond.selects_spec (a (.selects cls Bundle.tFill0 Bundle.tFill0) (by simp [Bundle.messageArmAtoms]))
    cases Option.some.inj (q1.symm.trans hfound)
    cases Option.some.inj (q2.symm.trans (State.methodFound?_of_named Y.fill0 (by decide)))
    cases Option.some.inj (q3.symm.trans Y.fill0)
    rw [Launch.admits_selectMethod X.admits]; exact q4
  have hselF : selectMethod e.platform s.vm P1.m.cls T.fill = .method T.fill := by
    obtain ⟨c2, r2, m2, q1, q2, q3, q4, -⟩ := Cond.selects_spec (a (.selects cls Bundle.tFill Bundle.tFill) (by simp [Bundle.messageArmAtoms]))
    cases Option.some.inj (q1.symm.trans hfound)
    cases Option.some.inj (q2.symm.trans (State.methodFound?_of_named Y.fill (by decide)))
    cases Option.some.inj (q3.symm.trans Y.fill)
    rw [Launch.admits_selectMethod X.admits]; exact q4
  obtain ⟨cellS0, hcS0, hiss⟩ := Y.statics
  obtain ⟨u0, hu0⟩ := Cond.staticRefV Y.unassigned L.unassignedStatic L.statics hcS0 hiss (a (.isRef (.static Bundle.tN "UNASSIGNED_STACK" Bundle.steD)) (by simp [Bundle.messageArmAtoms]))
  obtain ⟨sen, hsen⟩ := Cond.staticRefV Y.sentinel L.sentinelStatic L.statics hcS0 hiss (a (.isRef (.static Bundle.tN "SUPPRESSED_SENTINEL" Bundle.listD)) (by simp [Bundle.messageArmAtoms]))
  obtain ⟨ci198, i198, fB, hk198, hg198, ha198, hsB, -, hnB, htB, hffB⟩ := Cond.ownField (t := .object "java/lang/Object") Y.found L.cls (by decide +kernel) (a (.fieldLink Bundle.tN 198 Bundle.tN "backtrace" "Ljava/lang/Object;") (by simp [Bundle.messageArmAtoms])) (a (.lays Bundle.tN Bundle.tN "backtrace" "Ljava/lang/Object;") (by simp [Bundle.messageArmAtoms])) e.platform hpl
  obtain ⟨cellS, hcS', heS, -, hkeep⟩ := X.same.2.2.2.2.2 T.aS cellS0 hcS0
  have hcellS : W.heap[T.aS]? = some cellS := hcS'
  have hout' : ∀ i, (⟨T.aS, i⟩ : Loc) ∉ locs := fun i hmem => by
    have := hlocs _ hmem cellS0 hcS0
    rw [hiss] at this; cases this
  have hknownS : cellS.vm ≠ .unknown := by
    rw [heS]; intro hu
    rw [show cellS0.vm = .unknown from hu] at hiss
    cases hiss
  have hvU : cellS.slots[T.fUnassigned.slot]? = some u0.v := by rw [hkeep _ (hout' _)]; exact hu0
  have hvSen : cellS.slots[T.fSentinel.slot]? = some sen.v := by rw [hkeep _ (hout' _)]; exact hsen
  obtain ⟨iM, hffM⟩ := Y.msg
  obtain ⟨tyC, dC, hdC, hdnC⟩ := Cond.laysAt hfound hk Y.cause (a (.lays cls Bundle.tN "cause" "Ljava/lang/Throwable;") (by simp [Bundle.messageArmAtoms]))
  obtain ⟨tyS, dS, hdS, hdnS⟩ := Cond.laysAt hfound hk Y.stack (a (.lays cls Bundle.tN "stackTrace" Bundle.steD) (by simp [Bundle.messageArmAtoms]))
  obtain ⟨tyP, dP, hdP, hdnP⟩ := Cond.laysAt hfound hk Y.supp (a (.lays cls Bundle.tN "suppressedExceptions" Bundle.listD) (by simp [Bundle.messageArmAtoms]))
  obtain ⟨tyM, dM, hdM, hdnM⟩ := Cond.laysAt hfound hk hffM (a (.lays cls Bundle.tN "detailMessage" "Ljava/lang/String;") (by simp [Bundle.messageArmAtoms]))
  obtain ⟨tyB, dB, hdB, hdnB⟩ := Cond.laysAt hfound hk hffB (a (.lays cls Bundle.tN "backtrace" "Ljava/lang/Object;") (by simp [Bundle.messageArmAtoms]))
  have bC := Cond.laysApart hdB hdC hdnB hdnC (by rw [hnB, Y.causeName]; decide)
  have bS := Cond.laysApart hdB hdS hdnB hdnS (by rw [hnB, Y.stackName]; decide)
  have bP := Cond.laysApart hdB hdP hdnB hdnP (by rw [hnB, Y.suppName]; decide)
  have hbk : ((preparedCellV T.toThrowableT (freshCell P1.m.cls kX) (W.heap.size + 2) u0 sen).withEntry W.cur).slots[fB.slot]? = some .null := by
    have := fresh_default (c := P1.m.cls) tyB
    rw [htB] at this
    simpa [preparedCellV, Cell.setSlot, Cell.withEntry, Array.getElem?_setIfInBounds, bC, bS, bP, bC.symm, bS.symm, bP.symm, defaultValue] using this
  have tkC := Takes.of_laid (v := .ref (W.heap.size + 2)) hk hord tyC (by rw [Y.causeType]; rfl)
  have tkS := Takes.of_laid (v := u0.v) hk hord tyS (by rw [Y.stackType]; exact fits_refV_array _ u0)
  have tkP := Takes.of_laid (v := sen.v) hk hord tyP (by rw [Y.suppType]; exact fits_refV_object _ sen)
  have tkM := Takes.of_laid (v := .ref (W.heap.size + 1)) hk hord tyM (by rw [Y.msgType]; rfl)
  have hskip : SkipFacts T e.platform s (fun u => u) u0 ((preparedCellV T.toThrowableT (freshCell P1.m.cls kX) (W.heap.size + 2) u0 sen).withEntry W.cur) := ⟨{ ci198 := ci198, i198 := i198, fBack := fB }, ⟨hk198, hg198, ha198, hsB⟩, hbk, fun _ _ => rfl⟩
  have h0 : At W g.method c below := by rw [hg]; exact X.here
  obtain ⟨hbeyond, hfreeW⟩ := X.vmMayThrow hsize (.throwNew cls (some text) none) (fun f hf => by cases hf) rfl hRlocals
  have hfr' : W.frames.length + Ps.length + 4 < (e.platform.stackLimits W.me).1 := by have := X.framesAbove hRframes; omega
  have hwd' : (stackUse (.java g :: W.frames.tail)).2 + 13 * Ps.length + 55 ≤ (e.platform.stackLimits W.me).2 := by have := X.stackAbove hsize (K := 13 * Ps.length + 55) (by omega); omega
  have hslots : W.slotsUsed + (stringBytes (stringToUtf16 text)).size + Zs.kS.instanceTypes.size + kX.instanceTypes.size ≤ e.platform.maxSlots := by
    have := X.slotsAbove hRslots
    rw [hn4, hn6]
    omega
  obtain ⟨vm', hW', st⟩ := Steps.vmThrowsMessageColdByV p (s₀ := s) (S := W) (g := g) h0 hexec T L Z LZ M LM X.warmed (t := W.cur) rfl Zs LZs P1 L1 Ps hL hlink1 hlink hsoe hoom hfound hk hinit hord hctor
    (Launch.admits_hotImplicitExceptions X.admits) hbeyond hfreeW htext hlimit hheap (X.cellsAbove hRcells) hslots (hfitv _) (hfitc _)
    (Nn := fun u => u) heapOnly_id (fun _ _ => rfl) (fun _ => rfl) (fun u x y => setCell_twice _ _ _ _) (fun _ => Nat.le_refl _) (cN := ((preparedCellV T.toThrowableT (freshCell P1.m.cls kX) (W.heap.size + 2) u0 sen).withEntry W.cur))
    hsel0 hcellS hknownS hvU tkS (fun _ hu => hu) (fun _ hu => hu) rfl rfl rfl (by simp [preparedCellV, Cell.setSlot, Cell.withEntry]) hskip (fun _ _ hA hW _ hroom _ hrest => L.nativeOff p htr hA hW hroom hrest) hselF hvSen tkC tkP tkM Y.objLocals rfl hfr' hwd'
  rw [plainBareV_eq T.toThrowableT (W.heap.size + 2) u0 sen (.ref (W.heap.size + 1)) W.cur rfl rfl] at st
  obtain ⟨-, -, w3, w4, -, -, -⟩ := withThrown_facts e.platform W Zs text P1.m.cls kX
  have X3 := ((X.pushed (bytesOf Zs.cB (stringToUtf16 text))).pushed (stringAt Zs.cS Zs.kS Zs.fv Zs.fc (stringToUtf16 text) W.heap.size)).pushed (freshCell P1.m.cls kX)
  rw [← withString_eq] at X3
  have X4 := X3.noted hW'
  have ha : (W.heap.size + 2) < ((withThrown W Zs text P1.m.cls kX).setVm vm').heap.size := by show _ < (withThrown W Zs text P1.m.cls kX).heap.size; rw [w3]; omega
  have hcell : ((withThrown W Zs text P1.m.cls kX).setVm vm').heap[(W.heap.size + 2)]? = some (freshCell P1.m.cls kX) := w4
  have X5 := ((((X4.stored hcell T.fCause.slot (.ref (W.heap.size + 2))).storedAgain ha T.fStack.slot u0.v).storedAgain ha T.fSupp.slot sen.v).storedAgain ha T.fStack.slot u0.v).storedAgain ha T.fMsg.slot (.ref (W.heap.size + 1))
  obtain ⟨g₁, hfrM⟩ := X5.frames_eq
  have hU : ((((withThrown W Zs text P1.m.cls kX).setVm vm').setCell (W.heap.size + 2) (plainBareV T.toThrowableT (freshCell P1.m.cls kX) (W.heap.size + 2) u0 sen (.ref (W.heap.size + 1)))).setTop g).pushFrame (.throwing (W.heap.size + 2)) = (((withThrown W Zs text P1.m.cls kX).setVm vm').setCell (W.heap.size + 2) (plainBareV T.toThrowableT (freshCell P1.m.cls kX) (W.heap.size + 2) u0 sen (.ref (W.heap.size + 1)))).setFrames (.throwing (W.heap.size + 2) :: .java g :: below) := by
    rw [State.pushFrame, State.frames_setTop _ hfrM, State.setTop_of_frames _ hfrM, State.setFrames_setFrames]
  have b1 : (bytesOf Zs.cB (stringToUtf16 text)).slots.size = (stringBytes (stringToUtf16 text)).size := by
    rw [(Cell.writeAll_facts _ _).2.2]; simp [bytes0]
  have b2 : (stringAt Zs.cS Zs.kS Zs.fv Zs.fc (stringToUtf16 text) W.heap.size).slots.size = 4 := by simp [string0, Cell.setSlot, hn4]
  have b3 : (freshCell P1.m.cls kX).slots.size = 6 := by simp [hn6]
  rw [b1, b2, b3] at X5
  have e9 : slots + (stringBytes (stringToUtf16 text)).size + 4 + 6 = slots + ((stringBytes (stringToUtf16 text)).size + 4 + 6) := by omega
  rw [e9] at X5
  simp only [List.append_assoc, List.cons_append, List.nil_append] at X5
  refine ⟨((withThrown W Zs text P1.m.cls kX).setVm vm').setCell (W.heap.size + 2) (plainBareV T.toThrowableT (freshCell P1.m.cls kX) (W.heap.size + 2) u0 sen (.ref (W.heap.size + 1))), W.heap.size + 2, _, fun target ht => st _ (by rw [X.tail, ← hU]; exact ht),
    X5.forget (fun y hy => ?_), heapAt_setCell_self _ ha, hfound, rfl⟩
  simp only [List.mem_cons, List.not_mem_nil, or_false] at hy
  have hge : s.heap.size ≤ W.heap.size := X.same.2.1
  rcases hy with rfl | rfl | rfl | rfl | rfl <;> exact Nat.le_trans hge (Nat.le_add_right _ 2)
set_option maxHeartbeats 1000000 in
/-- the machine throws NullPointerException, no traces kept: from its note over the frame g to 'throwing' over the same frame (follows the proof of Stand.vmThrowsNpe, Shelf42/KT2.lean; throwsNpeColdBareVAt, Shelf42/NT91.lean, called) -/
theorem vx_npeAt {p : Program} {l : Launch} {e : Env} {R : Room} {s : State} {m₀ : MethodId} {args : Array Value} {below : List Frame} {meth : Method} {c : Code} {W : State} {locs : List Loc} {cells slots : Nat}
    (X : Stand p l e R s m₀ args below meth c W locs cells slots) (hexec : p.tables.exec = Jvm.exec) (htr : e.platform.stackTraces = false) {n : Nat}
    (h : ∀ a ∈ Bundle.npeArmAtoms n, a.before args s = true)
    (hlocs : ∀ x ∈ locs, ∀ cell, s.heap[x.base]? = some cell → cell.vm.isStatics = false)
    {g : JFrame} (hg : g.method = m₀) (hsize : g.locals.size = c.maxLocals)
    (hRframes : 7 < R.frames) (hRlocals : 2 * g.monitorRoom + (g.stack.map fun v => v.category).sum + 10240 ≤ R.locals)
    (hRcells : cells + 1 ≤ R.cells) (hRslots : slots + n ≤ R.slots) (hlocks : meth.locks = false) :
    ∃ (S : State) (q : Addr) (ce : Cell), (∀ target, Steps p.tables e below ((S.setTop g).pushFrame (.throwing q)) target → Steps p.tables e below ((W.setTop g).pushFrame (.throwNew "java/lang/NullPointerException" none none)) target) ∧
      Stand p l e R s m₀ args below meth c S locs (cells + 1) (slots + n) ∧ S.heap[q]? = some ce ∧ s.vm.findClass "java/lang/NullPointerException" = some ce.cls ∧ ce.vm = .none := by
  have howns : e.platform.frameOwnsMonitors = true := by rw [X.admits.platform]
  have hfin : e.platform.finalization = false := by rw [X.admits.platform]
  have hpl : e.platform.magicAccessors = ({} : Platform).magicAccessors := by rw [X.admits.platform]
  have hpl2 : e.platform.arrayCloneIsPublic = true := by rw [X.admits.platform]
  have a' : ∀ x, x ∈ Bundle.npeArmAtoms n → x.holds args s none s [] = true := fun x hx => h x hx
  obtain ⟨T, Z, L, LZ, Y⟩ := ThrowableC.of_atoms (args := args) howns hfin hpl (fun x hx => h x (by simp [Bundle.npeArmAtoms, hx]))
  obtain ⟨N, LN, hcN, hnNF, hordN, hffS⟩ := NpeC.of_atoms (args := args) hpl hpl2 L Y (fun x hx => h x (by simp [Bundle.npeArmAtoms, hx]))
  obtain ⟨P1, L1, hP1m, hP1s⟩ := PassC.of_atoms (args := args) (s := s) hpl (X := Bundle.nN) (Y := Bundle.rN) (by decide) (by decide) LibCode.NullPointerException.Init0.at_0 LibCode.NullPointerException.Init0.at_1 LibCode.NullPointerException.Init0.at_4 (fun x hx => h x (by simp [Bundle.npeArmAtoms, hx]))
  obtain ⟨PR, LR, hPRm, hPRs⟩ := PassC.of_atoms (args := args) (s := s) hpl (X := Bundle.rN) (Y := Bundle.eN) (by decide) (by decide) LibCode.RuntimeException.Init0.at_0 LibCode.RuntimeException.Init0.at_1 LibCode.RuntimeException.Init0.at_4 (fun x hx => h x (by simp [Bundle.npeArmAtoms, hx]))
  obtain ⟨PE, LEx, hPEm, hPEs⟩ := PassC.of_atoms (args := args) (s := s) hpl (X := Bundle.eN) (Y := Bundle.tN) (by decide) (by decide) LibCode.Exception.Init0.at_0 LibCode.Exception.Init0.at_1 LibCode.Exception.Init0.at_4 (fun x hx => h x (by simp [Bundle.npeArmAtoms, hx]))
  have hfound : s.vm.findClass Bundle.nN = some P1.m.cls := findClass_of_methodNamed hP1m
  have ecls : N.cN = P1.m.cls := Option.some.inj (hcN.symm.trans hfound)
  have hk : s.vm.classes[P1.m.cls]? = some N.kN := by rw [← ecls]; exact LN.cls
  have hinit := Cond.initialized_spec hfound hk (a' (.initialized Bundle.nN) (by simp [Bundle.npeArmAtoms]))
  have hctor : N.kN.findMethod "<init>" "()V" = some P1.m.idx := findMethod_of_methodNamed hP1m hk
  obtain ⟨c1, k1, hc1, hk1, -, -, -, hn⟩ := Cond.instantiable_spec (a' (.instantiable Bundle.nN n) (by simp [Bundle.npeArmAtoms]))
  cases Option.some.inj (hc1.symm.trans hfound)
  cases Option.some.inj (hk1.symm.trans hk)
  have hfsz : (freshCell P1.m.cls N.kN).slots.size = n := by simp [hn]
  have hlink1 : P1.sup = PR.m := Option.some.inj (hP1s.symm.trans hPRm)
  have hlinkR : PR.sup = PE.m := Option.some.inj (hPRs.symm.trans hPEm)
  have hlinkE : PE.sup = Z.m T.toThrowableT := Option.some.inj (hPEs.symm.trans Y.init0)
  have hLs : ∀ P, P ∈ [PR, PE] → P.Links0 e.platform s := fun P hP => by
    simp only [List.mem_cons, List.not_mem_nil, or_false] at hP
    rcases hP with rfl | rfl
    · exact LR
    · exact LEx
  have hsel0 : selectMethod e.platform s.vm P1.m.cls T.fill0 = .method T.fill0 := by
    obtain ⟨c2, r2, m2, q1, q2, q3, q4, -⟩ := Cond.selects_spec (a' (.selects Bundle.nN Bundle.tFill0 Bundle.tFill0) (by simp [Bundle.npeArmAtoms]))
    cases Option.some.inj (q1.symm.trans hfound)
    cases Option.some.inj (q2.symm.trans (State.methodFound?_of_named Y.fill0 (by decide)))
    cases Option.some.inj (q3.symm.trans Y.fill0)
    rw [Launch.admits_selectMethod X.admits]; exact q4
  have hselF : selectMethod e.platform s.vm P1.m.cls T.fill = .method N.fill := by
    obtain ⟨c2, r2, m2, q1, q2, q3, q4, -⟩ := Cond.selects_spec (a' (.selects Bundle.nN Bundle.tFill Bundle.nFill) (by simp [Bundle.npeArmAtoms]))
    cases Option.some.inj (q1.symm.trans hfound)
    cases Option.some.inj (q2.symm.trans (State.methodFound?_of_named Y.fill (by decide)))
    cases Option.some.inj (q3.symm.trans hnNF)
    rw [Launch.admits_selectMethod X.admits]; exact q4
  obtain ⟨cellS0, hcS0, hiss⟩ := Y.statics
  obtain ⟨u0, hu0⟩ := Cond.staticRefV Y.unassigned L.unassignedStatic L.statics hcS0 hiss (a' (.isRef (.static Bundle.tN "UNASSIGNED_STACK" Bundle.steD)) (by simp [Bundle.npeArmAtoms]))
  obtain ⟨sen, hsen⟩ := Cond.staticRefV Y.sentinel L.sentinelStatic L.statics hcS0 hiss (a' (.isRef (.static Bundle.tN "SUPPRESSED_SENTINEL" Bundle.listD)) (by simp [Bundle.npeArmAtoms]))
  obtain ⟨ci198, i198, fB, hk198, hg198, ha198, hsB, -, hnB, htB, hffB⟩ := Cond.ownField (t := .object "java/lang/Object") Y.found L.cls (by decide +kernel) (a' (.fieldLink Bundle.tN 198 Bundle.tN "backtrace" Bundle.objD) (by simp [Bundle.npeArmAtoms])) (a' (.lays Bundle.tN Bundle.tN "backtrace" Bundle.objD) (by simp [Bundle.npeArmAtoms])) e.platform hpl
  obtain ⟨cellS, hcS', heS, -, hkeep⟩ := X.same.2.2.2.2.2 T.aS cellS0 hcS0
  have hcellS : W.heap[T.aS]? = some cellS := hcS'
  have hout' : ∀ i, (⟨T.aS, i⟩ : Loc) ∉ locs := fun i hmem => by
    have := hlocs _ hmem cellS0 hcS0
    rw [hiss] at this; cases this
  have hknownS : cellS.vm ≠ .unknown := by
    rw [heS]; intro hu
    rw [show cellS0.vm = .unknown from hu] at hiss
    cases hiss
  have hvU : cellS.slots[T.fUnassigned.slot]? = some u0.v := by rw [hkeep _ (hout' _)]; exact hu0
  have hvSen : cellS.slots[T.fSentinel.slot]? = some sen.v := by rw [hkeep _ (hout' _)]; exact hsen
  obtain ⟨tyC, dC, hdC, hdnC⟩ := Cond.laysAt hfound hk Y.cause (a' (.lays Bundle.nN Bundle.tN "cause" "Ljava/lang/Throwable;") (by simp [Bundle.npeArmAtoms]))
  obtain ⟨tyS, dS, hdS, hdnS⟩ := Cond.laysAt hfound hk Y.stack (a' (.lays Bundle.nN Bundle.tN "stackTrace" Bundle.steD) (by simp [Bundle.npeArmAtoms]))
  obtain ⟨tyP, dP, hdP, hdnP⟩ := Cond.laysAt hfound hk Y.supp (a' (.lays Bundle.nN Bundle.tN "suppressedExceptions" Bundle.listD) (by simp [Bundle.npeArmAtoms]))
  obtain ⟨tyX, dX, hdX, hdnX⟩ := Cond.laysAt hfound hk hffS (a' (.lays Bundle.nN Bundle.nN "extendedMessageState" "I") (by simp [Bundle.npeArmAtoms, Bundle.npeAtoms]))
  obtain ⟨hnX, htX⟩ := State.fieldFound?_type hffS (t := .int) (by decide +kernel)
  have xC := Cond.laysApart hdC hdX hdnC hdnX (by rw [hnX, Y.causeName]; decide)
  have xS := Cond.laysApart hdS hdX hdnS hdnX (by rw [hnX, Y.stackName]; decide)
  have xP := Cond.laysApart hdP hdX hdnP hdnX (by rw [hnX, Y.suppName]; decide)
  have hv0 : (freshCell P1.m.cls N.kN).slots[N.fState.slot]? = some (.int 0) := by
    have := fresh_default (c := P1.m.cls) tyX
    rw [htX] at this; exact this
  obtain ⟨tyB, dB, hdB, hdnB⟩ := Cond.laysAt hfound hk hffB (a' (.lays Bundle.nN Bundle.tN "backtrace" Bundle.objD) (by simp [Bundle.npeArmAtoms]))
  have bC := Cond.laysApart hdB hdC hdnB hdnC (by rw [hnB, Y.causeName]; decide)
  have bS := Cond.laysApart hdB hdS hdnB hdnS (by rw [hnB, Y.stackName]; decide)
  have bP := Cond.laysApart hdB hdP hdnB hdnP (by rw [hnB, Y.suppName]; decide)
  have bX := Cond.laysApart hdB hdX hdnB hdnX (by rw [hnB, hnX]; decide)
  have hbk : ((npeCell N.toNpeT (preparedCellV T.toThrowableT (freshCell P1.m.cls N.kN) W.heap.size u0 sen) W.cur).withEntry W.cur).slots[fB.slot]? = some .null := by
    have := fresh_default (c := P1.m.cls) tyB
    rw [htB] at this
    simpa [npeCell, preparedCellV, Cell.setSlot, Cell.withEntry, Array.getElem?_setIfInBounds, bC, bS, bP, bX, bC.symm, bS.symm, bP.symm, bX.symm, defaultValue] using this
  have tkC := Takes.of_laid (v := .ref W.heap.size) hk hordN tyC (by rw [Y.causeType]; rfl)
  have tkS := Takes.of_laid (v := u0.v) hk hordN tyS (by rw [Y.stackType]; exact fits_refV_array _ u0)
  have tkP := Takes.of_laid (v := sen.v) hk hordN tyP (by rw [Y.suppType]; exact fits_refV_object _ sen)
  have tkX := Takes.of_laid (v := .int 1) hk hordN tyX (by rw [htX]; rfl)
  have hskip : SkipFacts T e.platform s (fun u => u) u0 ((npeCell N.toNpeT (preparedCellV T.toThrowableT (freshCell P1.m.cls N.kN) W.heap.size u0 sen) W.cur).withEntry W.cur) := ⟨{ ci198 := ci198, i198 := i198, fBack := fB }, ⟨hk198, hg198, ha198, hsB⟩, hbk, fun _ _ => rfl⟩
  obtain ⟨vm', X3, st, -⟩ := X.throwsNpeColdBareVAt hexec hg hsize T L Z LZ N LN P1 L1 [PR, PE] hLs hlink1 ⟨hlinkR, hlinkE, trivial⟩ hfound hk hinit hordN hctor hsel0 hselF hcellS hknownS hvU hvSen
    hv0 xC xS xP tkC tkS tkP tkX Y.objLocals hskip (fun _ _ hA hW _ hroom _ hrest => L.nativeOff p htr hA hW hroom hrest) (by simpa using hRframes) hRlocals (by simp) hRcells (by rw [hn]; exact hRslots)
  have hlt : W.heap.size < ((W.pushCell (freshCell P1.m.cls N.kN)).setVm vm').heap.size := by
    show W.heap.size < (W.pushCell (freshCell P1.m.cls N.kN)).heap.size
    rw [State.heap_size_pushCell]; omega
  rw [hfsz] at X3
  obtain ⟨g₁, hfrM⟩ := X3.frames_eq
  have hU : ((((W.pushCell (freshCell P1.m.cls N.kN)).setVm vm').setCell W.heap.size (npeBareV T.toThrowableT N.toNpeT (freshCell P1.m.cls N.kN) W.heap.size u0 sen)).setTop g).pushFrame (.throwing W.heap.size) = (((W.pushCell (freshCell P1.m.cls N.kN)).setVm vm').setCell W.heap.size (npeBareV T.toThrowableT N.toNpeT (freshCell P1.m.cls N.kN) W.heap.size u0 sen)).setFrames (.throwing W.heap.size :: .java g :: below) := by
    rw [State.pushFrame, State.frames_setTop _ hfrM, State.setTop_of_frames _ hfrM, State.setFrames_setFrames]
  refine ⟨_, W.heap.size, _, fun target ht => st.trans (by rw [← hU]; exact ht), X3.forget (fun y hy => ?_), heapAt_setCell_self _ hlt, hfound, rfl⟩
  simp only [List.mem_cons, List.not_mem_nil, or_false] at hy
  have hge : s.heap.size ≤ W.heap.size := X.same.2.1
  rcases hy with rfl | rfl | rfl | rfl | rfl <;> exact hge
/-- the words of a machine's NullPointerException, but the four that speak of the heap -/
def vx_atN (n : Nat) : List Cond := (Bundle.npeArmAtoms n).filter vx_no
/-- the words of a machine's throw with a message, but the four that speak of the heap -/
def vx_atM (X : String) (names : List String) : List Cond := (Bundle.messageArmAtoms X names).filter vx_no
section
variable {p : Program} {l : Launch} {e : Env} {R : Room} {s : State} {m : MethodId} {args : Array Value} {below : List Frame} {meth : Method} {c : Code} {H : Heap} {locs : List Loc} {cells slots : Nat}
/-- a frame seen from a rebased start, seen from the first start again -/
theorem vx_back9 {T S : State} {R' : Room} {k n : Nat} (X : Stand p l e R s m args below meth c T locs cells slots) (Y : Stand p l e R' ((T.setVm s.vm).setFrames (.invoking m args :: below)) m args below meth c T [] 0 0) (Z : Stand p l e R' ((T.setVm s.vm).setFrames (.invoking m args :: below)) m args below meth c S [] k n) :
    Stand p l e R s m args below meth c S locs (cells + k) (slots + n) := by
  have hW0 : s.WarmedH ((T.setVm s.vm).setFrames (.invoking m args :: below)).vm := State.WarmedH.refl s
  refine { admits := X.admits, cas := X.cas, clock := X.clock, frames := X.frames, room := X.room, hears := X.hears, method := X.method, code := X.code, here := Z.here, tail := Z.tail, warmed := State.WarmedH.trans hW0 Z.warmed, limits := Z.limits.trans (Y.limits.symm.trans X.limits), bytes := Z.bytes.trans (Y.bytes.symm.trans X.bytes), same := ?_ }
  obtain ⟨e1, e2⟩ := Z.same
  rw [State.setFrames_setFrames] at e1
  have h2 : (T.setVm s.vm).sameButNew (S.setVm s.vm) [] k n := ⟨e1, e2⟩
  have h3 := X.same.trans h2
  rw [List.append_nil] at h3
  exact h3
/-- from the machine's note that E is thrown here with this text -/
def vx_Note (p : Program) (l : Launch) (e : Env) (R : Room) (s : State) (m : MethodId) (args : Array Value) (below : List Frame) (meth : Method) (c : Code) (H : Heap) (locs : List Loc) (cells slots : Nat) (Q : State → Prop) (g : JFrame) (E text : String) : Prop :=
  ∀ T : State, T.heap = H → Stand p l e R s m args below meth c T locs cells slots → ∃ t, Steps p.tables e below ((T.setTop g).pushFrame (.throwNew E (some text) none)) t ∧ Q t
theorem vx_vm {pc : Nat} {ls : Array Slot} {rest : List Value} {Q : State → Prop} (hexec : p.tables.exec = Jvm.exec) (hl : l.stackTraces = false) {cls text : String} {names : List String} {nb : Nat} {A : Nat → Prop}
    (hcls : Bundle.fit cls = true) (hnames : ∀ n ∈ names, Bundle.fit n = true) (hsoe : (cls == "java/lang/StackOverflowError") = false) (hoom : (cls == "java/lang/OutOfMemoryError") = false)
    (hat : ∀ w ∈ vx_atM cls names, w.before args s = true) (hgood : ∀ w ∈ vx_atM cls names, vx_ot w = true)
    (hU : vx_Zq Bundle.tN "UNASSIGNED_STACK" Bundle.steD A s s.heap) (hN : vx_Zq Bundle.tN "SUPPRESSED_SENTINEL" Bundle.listD A s s.heap) (hS : va_S A s.heap H locs) (hsize : ls.size = c.maxLocals)
    (htext : (text == notModelled) = false) (hnb : (stringBytes (stringToUtf16 text)).size ≤ nb) (hnb1 : nb ≤ 1000)
    (hRframes : names.length + 4 < R.frames) (hRlocals : (rest.map fun v => v.category).sum + 10240 ≤ R.locals) (hshort : 13 * names.length + 55 ≤ 10240) (hRcells : cells + 3 ≤ R.cells) (hRslots : slots + (nb + 10) ≤ R.slots) (hlocks : meth.locks = false)
    (k : ∀ (H1 : Heap) (q9 : Addr) (ce : Cell), H.size ≤ H1.size → (∀ q : Nat, q < H.size → H1[q]? = H[q]?) → va_S A s.heap H1 locs → H1[q9]? = some ce → ce.vm = .none → s.vm.findClass cls = some ce.cls → vx_W p l e R s m args below meth c H1 locs (cells + 3) (slots + (nb + 10)) Q (F0 m pc ls rest) q9) :
    vx_Note p l e R s m args below meth c H locs cells slots Q (F0 m pc ls rest) cls text := by
  intro T hT X
  have htr : e.platform.stackTraces = false := (show e.platform.stackTraces = l.stackTraces by rw [X.admits.platform]).trans hl
  have Y := vx_rebase X (R' := { frames := R.frames, locals := R.locals, cells := 3, slots := nb + 10 }) (Nat.le_refl _) (Nat.le_refl _) hRcells hRslots
  have hhp : ((T.setVm s.vm).setFrames (.invoking m args :: below)).heap = H := hT
  have hW0 : s.WarmedH ((T.setVm s.vm).setFrames (.invoking m args :: below)).vm := State.WarmedH.refl s
  have hat' : ∀ w ∈ vx_atM cls names, w.before args ((T.setVm s.vm).setFrames (.invoking m args :: below)) = true := fun w hw => vx_ot_at hW0 rfl (hgood w hw) (hat w hw)
  have hU' : vx_Zq Bundle.tN "UNASSIGNED_STACK" Bundle.steD A ((T.setVm s.vm).setFrames (.invoking m args :: below)) ((T.setVm s.vm).setFrames (.invoking m args :: below)).heap := by rw [hhp]; exact vx_Zq.moved hW0.alike (hU.kept hS.2.1)
  have hN' : vx_Zq Bundle.tN "SUPPRESSED_SENTINEL" Bundle.listD A ((T.setVm s.vm).setFrames (.invoking m args :: below)) ((T.setVm s.vm).setFrames (.invoking m args :: below)).heap := by rw [hhp]; exact vx_Zq.moved hW0.alike (hN.kept hS.2.1)
  obtain ⟨S, q, ce, st, Z, hce, hcl', hv⟩ := vx_vmAt Y hexec htr (cls := cls) (names := names) (text := text) hcls hnames hsoe hoom (vx_own hat' (vx_isRefq hU'.1) (vx_isRefq hN'.1) hU'.2.word hN'.2.word) (fun x hx => nomatch hx) htext
    (by rw [Launch.admits_arrayLengthLimit X.admits]; omega) (by rw [Launch.admits_maxHeapBytes X.admits]; simp only [componentBytes]; omega)
    (g := F0 m pc ls rest) rfl hsize hRframes (by show 2 * 0 + (rest.map fun v => v.category).sum + 10240 ≤ R.locals; omega) hshort (by show 0 + 3 ≤ 3; omega) (by show 0 + (_ + 4 + 6) ≤ nb + 10; omega) hlocks
  obtain ⟨f1, f2⟩ := vx_frame Z.same
  have f1' : H.size ≤ S.heap.size := by rw [← hT]; exact f1
  have f2' : ∀ q : Nat, q < H.size → S.heap[q]? = H[q]? := fun q hq => by
    rw [← hT]
    exact f2 q (by rw [← hT] at hq; exact hq) (fun z hz => nomatch hz)
  have X5 := vx_back9 X Y Z
  have X6 : Stand p l e R s m args below meth c S locs (cells + 3) (slots + (nb + 10)) := { X5 with same := X5.same.mono (by omega) (by omega) }
  obtain ⟨t, a1, b1⟩ := k S.heap q ce f1' f2' ⟨Nat.le_trans hS.1 f1', fun q h1 h2 => (f2' q (Nat.lt_of_lt_of_le h1 hS.1)).trans (hS.2.1 q h1 h2), hS.2.2⟩ hce hv hcl' S rfl X6
  exact ⟨t, st t a1, b1⟩
/-- from the machine's note that NullPointerException is thrown here -/
def vx_NoteN (p : Program) (l : Launch) (e : Env) (R : Room) (s : State) (m : MethodId) (args : Array Value) (below : List Frame) (meth : Method) (c : Code) (H : Heap) (locs : List Loc) (cells slots : Nat) (Q : State → Prop) (g : JFrame) : Prop :=
  ∀ T : State, T.heap = H → Stand p l e R s m args below meth c T locs cells slots → ∃ t, Steps p.tables e below ((T.setTop g).pushFrame (.throwNew "java/lang/NullPointerException" none none)) t ∧ Q t
theorem vx_npe {pc : Nat} {ls : Array Slot} {rest : List Value} {Q : State → Prop} (hexec : p.tables.exec = Jvm.exec) (hl : l.stackTraces = false) {nb : Nat} {A : Nat → Prop}
    (hat : ∀ w ∈ vx_atN nb, w.before args s = true) (hgood : ∀ w ∈ vx_atN nb, vx_ot w = true)
    (hU : vx_Zq Bundle.tN "UNASSIGNED_STACK" Bundle.steD A s s.heap) (hN : vx_Zq Bundle.tN "SUPPRESSED_SENTINEL" Bundle.listD A s s.heap) (hS : va_S A s.heap H locs) (hsize : ls.size = c.maxLocals)
    (hRframes : 7 < R.frames) (hRlocals : (rest.map fun v => v.category).sum + 10240 ≤ R.locals) (hRcells : cells + 1 ≤ R.cells) (hRslots : slots + nb ≤ R.slots) (hlocks : meth.locks = false)
    (k : ∀ (H1 : Heap) (q9 : Addr) (ce : Cell), H.size ≤ H1.size → (∀ q : Nat, q < H.size → H1[q]? = H[q]?) → va_S A s.heap H1 locs → H1[q9]? = some ce → ce.vm = .none → s.vm.findClass "java/lang/NullPointerException" = some ce.cls → vx_W p l e R s m args below meth c H1 locs (cells + 1) (slots + nb) Q (F0 m pc ls rest) q9) :
    vx_NoteN p l e R s m args below meth c H locs cells slots Q (F0 m pc ls rest) := by
  intro T hT X
  have htr : e.platform.stackTraces = false := (show e.platform.stackTraces = l.stackTraces by rw [X.admits.platform]).trans hl
  have Y := vx_rebase X (R' := { frames := R.frames, locals := R.locals, cells := 1, slots := nb }) (Nat.le_refl _) (Nat.le_refl _) hRcells hRslots
  have hhp : ((T.setVm s.vm).setFrames (.invoking m args :: below)).heap = H := hT
  have hW0 : s.WarmedH ((T.setVm s.vm).setFrames (.invoking m args :: below)).vm := State.WarmedH.refl s
  have hat' : ∀ w ∈ vx_atN nb, w.before args ((T.setVm s.vm).setFrames (.invoking m args :: below)) = true := fun w hw => vx_ot_at hW0 rfl (hgood w hw) (hat w hw)
  have hU' : vx_Zq Bundle.tN "UNASSIGNED_STACK" Bundle.steD A ((T.setVm s.vm).setFrames (.invoking m args :: below)) ((T.setVm s.vm).setFrames (.invoking m args :: below)).heap := by rw [hhp]; exact vx_Zq.moved hW0.alike (hU.kept hS.2.1)
  have hN' : vx_Zq Bundle.tN "SUPPRESSED_SENTINEL" Bundle.listD A ((T.setVm s.vm).setFrames (.invoking m args :: below)) ((T.setVm s.vm).setFrames (.invoking m args :: below)).heap := by rw [hhp]; exact vx_Zq.moved hW0.alike (hN.kept hS.2.1)
  obtain ⟨S, q, ce, st, Z, hce, hcl', hv⟩ := vx_npeAt Y hexec htr (n := nb) (vx_own hat' (vx_isRefq hU'.1) (vx_isRefq hN'.1) hU'.2.word hN'.2.word) (fun x hx => nomatch hx)
    (g := F0 m pc ls rest) rfl hsize hRframes (by show 2 * 0 + (rest.map fun v => v.category).sum + 10240 ≤ R.locals; omega) (by show 0 + 1 ≤ 1; omega) (by show 0 + nb ≤ nb; omega) hlocks
  obtain ⟨f1, f2⟩ := vx_frame Z.same
  have f1' : H.size ≤ S.heap.size := by rw [← hT]; exact f1
  have f2' : ∀ q : Nat, q < H.size → S.heap[q]? = H[q]? := fun q hq => by
    rw [← hT]
    exact f2 q (by rw [← hT] at hq; exact hq) (fun z hz => nomatch hz)
  have X5 := vx_back9 X Y Z
  have X6 : Stand p l e R s m args below meth c S locs (cells + 1) (slots + nb) := { X5 with same := X5.same.mono (by omega) (by omega) }
  obtain ⟨t, a1, b1⟩ := k S.heap q ce f1' f2' ⟨Nat.le_trans hS.1 f1', fun q h1 h2 => (f2' q (Nat.lt_of_lt_of_le h1 hS.1)).trans (hS.2.1 q h1 h2), hS.2.2⟩ hce hv hcl' S rfl X6
  exact ⟨t, st t a1, b1⟩
variable {Q : State → Prop} {cc : ByteArray} {pc : Nat} {ls : Array Slot} {rest : List Value}
theorem vx_idivZ (hexec : p.tables.exec = Jvm.exec) (hb : c.code = cc) {a b : Int32} (h0 : b = 0) (d : decode cc pc = .ok (.idiv, 1)) (k : vx_Note p l e R s m args below meth c H locs cells slots Q (F0 m pc ls rest) "java/lang/ArithmeticException" "/ by zero") :
    W p l e R s m args below meth c H locs cells slots Q (F0 m pc ls (.int b :: .int a :: rest)) := by
  intro T hT X
  obtain ⟨t, st, q⟩ := k T hT X
  exact ⟨t, X.idivZero hexec (g := F0 m pc ls (.int b :: .int a :: rest)) rfl (a := a) (rest := rest) (by rw [h0]) (by rw [hb]; exact d) t st, q⟩
theorem vx_iremZ (hexec : p.tables.exec = Jvm.exec) (hb : c.code = cc) {a b : Int32} (h0 : b = 0) (d : decode cc pc = .ok (.irem, 1)) (k : vx_Note p l e R s m args below meth c H locs cells slots Q (F0 m pc ls rest) "java/lang/ArithmeticException" "/ by zero") :
    W p l e R s m args below meth c H locs cells slots Q (F0 m pc ls (.int b :: .int a :: rest)) := by
  intro T hT X
  obtain ⟨t, st, q⟩ := k T hT X
  exact ⟨t, X.iremZero hexec (g := F0 m pc ls (.int b :: .int a :: rest)) rfl (a := a) (rest := rest) (by rw [h0]) (by rw [hb]; exact d) t st, q⟩
theorem vx_ldivZ (hexec : p.tables.exec = Jvm.exec) (hb : c.code = cc) {a b : Int64} (h0 : b = 0) (d : decode cc pc = .ok (.ldiv, 1)) (k : vx_Note p l e R s m args below meth c H locs cells slots Q (F0 m pc ls rest) "java/lang/ArithmeticException" "/ by zero") :
    W p l e R s m args below meth c H locs cells slots Q (F0 m pc ls (.long b :: .long a :: rest)) := by
  intro T hT X
  obtain ⟨t, st, q⟩ := k T hT X
  exact ⟨t, X.ldivZero hexec (g := F0 m pc ls (.long b :: .long a :: rest)) rfl (a := a) (rest := rest) (by rw [h0]) (by rw [hb]; exact d) t st, q⟩
theorem vx_lremZ (hexec : p.tables.exec = Jvm.exec) (hb : c.code = cc) {a b : Int64} (h0 : b = 0) (d : decode cc pc = .ok (.lrem, 1)) (k : vx_Note p l e R s m args below meth c H locs cells slots Q (F0 m pc ls rest) "java/lang/ArithmeticException" "/ by zero") :
    W p l e R s m args below meth c H locs cells slots Q (F0 m pc ls (.long b :: .long a :: rest)) := by
  intro T hT X
  obtain ⟨t, st, q⟩ := k T hT X
  exact ⟨t, X.lremZero hexec (g := F0 m pc ls (.long b :: .long a :: rest)) rfl (a := a) (rest := rest) (by rw [h0]) (by rw [hb]; exact d) t st, q⟩
theorem vx_ialdZ {D : va_G} {cl : List vw_C} {ws : va_W} {tys : List (ClassId × FieldType)} {a : Nat} (hexec : p.tables.exec = Jvm.exec) (hb : c.code = cc) (hK : va_K D cl tys s) (hP : va_P D cl ws H) (q0 t0 : Nat) {cA : ClassId} {n : Nat} {f : Nat → Int32} (ha : ws[q0]? = some (a, .inl (cA, n, .inl f))) (ht : tys[t0]? = some (cA, .int)) {i : Int32} (hout : ¬ vp_in i n) (hdg : decode cc pc = .ok (.iaload, 1))
    (k : ∀ tx : String, tx = (toString "Index " ++ toString i ++ toString " out of bounds for length " ++ toString n : String) → vx_Note p l e R s m args below meth c H locs cells slots Q (F0 m pc ls rest) "java/lang/ArrayIndexOutOfBoundsException" tx) : W p l e R s m args below meth c H locs cells slots Q (F0 m pc ls (.int i :: .ref a :: rest)) := by
  intro T hT X
  obtain ⟨t, st, q⟩ := k _ rfl T hT X
  refine ⟨t, ?_, q⟩
  have h1 := X.ialoadOut hexec (by rw [hT]; exact hP q0 _ ha) ((hK.2 t0 _ ht).1 n (fun j => .int (f j))) (j := i) (by show (i < 0 ∨ (arrV _ _ _).slots.size ≤ _); rw [arrV_size]; exact Classical.byContradiction hout) (g := F0 m pc ls (.int i :: .ref a :: rest)) rfl (rest := rest) rfl (by rw [hb]; exact hdg) t
  simp only [arrV_size] at h1
  exact h1 st
theorem vx_iastZ {D : va_G} {cl : List vw_C} {ws : va_W} {tys : List (ClassId × FieldType)} {a : Nat} (hexec : p.tables.exec = Jvm.exec) (hb : c.code = cc) (hK : va_K D cl tys s) (hP : va_P D cl ws H) (q0 t0 : Nat) {cA : ClassId} {n : Nat} {f : Nat → Int32} (ha : ws[q0]? = some (a, .inl (cA, n, .inl f))) (ht : tys[t0]? = some (cA, .int)) {i : Int32} {x : Int32} (hout : ¬ vp_in i n) (hdg : decode cc pc = .ok (.iastore, 1))
    (k : ∀ tx : String, tx = (toString "Index " ++ toString i ++ toString " out of bounds for length " ++ toString n : String) → vx_Note p l e R s m args below meth c H locs cells slots Q (F0 m pc ls rest) "java/lang/ArrayIndexOutOfBoundsException" tx) : W p l e R s m args below meth c H locs cells slots Q (F0 m pc ls (.int x :: .int i :: .ref a :: rest)) := by
  intro T hT X
  obtain ⟨t, st, q⟩ := k _ rfl T hT X
  refine ⟨t, ?_, q⟩
  have h1 := X.iastoreOut hexec (by rw [hT]; exact hP q0 _ ha) ((hK.2 t0 _ ht).1 n (fun j => .int (f j))) (j := i) (by show (i < 0 ∨ (arrV _ _ _).slots.size ≤ _); rw [arrV_size]; exact Classical.byContradiction hout) (g := F0 m pc ls (.int x :: .int i :: .ref a :: rest)) rfl (rest := rest) rfl (by rw [hb]; exact hdg) t
  simp only [arrV_size] at h1
  exact h1 st
theorem vx_baldZ {D : va_G} {cl : List vw_C} {ws : va_W} {tys : List (ClassId × FieldType)} {a : Nat} (hexec : p.tables.exec = Jvm.exec) (hb : c.code = cc) (hK : va_K D cl tys s) (hP : va_P D cl ws H) (q0 t0 : Nat) {cA : ClassId} {n : Nat} {f : Nat → Int32} (ha : ws[q0]? = some (a, .inl (cA, n, .inl f))) (ht : tys[t0]? = some (cA, .byte)) {i : Int32} (hout : ¬ vp_in i n) (hdg : decode cc pc = .ok (.baload, 1))
    (k : ∀ tx : String, tx = (toString "Index " ++ toString i ++ toString " out of bounds for length " ++ toString n : String) → vx_Note p l e R s m args below meth c H locs cells slots Q (F0 m pc ls rest) "java/lang/ArrayIndexOutOfBoundsException" tx) : W p l e R s m args below meth c H locs cells slots Q (F0 m pc ls (.int i :: .ref a :: rest)) := by
  intro T hT X
  obtain ⟨t, st, q⟩ := k _ rfl T hT X
  refine ⟨t, ?_, q⟩
  have h1 := X.baloadOut hexec (by rw [hT]; exact hP q0 _ ha) ((hK.2 t0 _ ht).1 n (fun j => .int (f j))) (j := i) (by show (i < 0 ∨ (arrV _ _ _).slots.size ≤ _); rw [arrV_size]; exact Classical.byContradiction hout) (g := F0 m pc ls (.int i :: .ref a :: rest)) rfl (rest := rest) rfl (by rw [hb]; exact hdg) t
  simp only [arrV_size] at h1
  exact h1 st
theorem vx_bastZ {D : va_G} {cl : List vw_C} {ws : va_W} {tys : List (ClassId × FieldType)} {a : Nat} (hexec : p.tables.exec = Jvm.exec) (hb : c.code = cc) (hK : va_K D cl tys s) (hP : va_P D cl ws H) (q0 t0 : Nat) {cA : ClassId} {n : Nat} {f : Nat → Int32} (ha : ws[q0]? = some (a, .inl (cA, n, .inl f))) (ht : tys[t0]? = some (cA, .byte)) {i : Int32} {x : Int32} (hout : ¬ vp_in i n) (hdg : decode cc pc = .ok (.bastore, 1))
    (k : ∀ tx : String, tx = (toString "Index " ++ toString i ++ toString " out of bounds for length " ++ toString n : String) → vx_Note p l e R s m args below meth c H locs cells slots Q (F0 m pc ls rest) "java/lang/ArrayIndexOutOfBoundsException" tx) : W p l e R s m args below meth c H locs cells slots Q (F0 m pc ls (.int x :: .int i :: .ref a :: rest)) := by
  intro T hT X
  obtain ⟨t, st, q⟩ := k _ rfl T hT X
  refine ⟨t, ?_, q⟩
  have h1 := X.bastoreOut hexec (by rw [hT]; exact hP q0 _ ha) ((hK.2 t0 _ ht).1 n (fun j => .int (f j))) (j := i) (by show (i < 0 ∨ (arrV _ _ _).slots.size ≤ _); rw [arrV_size]; exact Classical.byContradiction hout) (g := F0 m pc ls (.int x :: .int i :: .ref a :: rest)) rfl (rest := rest) rfl (by rw [hb]; exact hdg) t
  simp only [arrV_size] at h1
  exact h1 st
theorem vx_zaldZ {D : va_G} {cl : List vw_C} {ws : va_W} {tys : List (ClassId × FieldType)} {a : Nat} (hexec : p.tables.exec = Jvm.exec) (hb : c.code = cc) (hK : va_K D cl tys s) (hP : va_P D cl ws H) (q0 t0 : Nat) {cA : ClassId} {n : Nat} {f : Nat → Int32} (ha : ws[q0]? = some (a, .inl (cA, n, .inl f))) (ht : tys[t0]? = some (cA, .boolean)) {i : Int32} (hout : ¬ vp_in i n) (hdg : decode cc pc = .ok (.baload, 1))
    (k : ∀ tx : String, tx = (toString "Index " ++ toString i ++ toString " out of bounds for length " ++ toString n : String) → vx_Note p l e R s m args below meth c H locs cells slots Q (F0 m pc ls rest) "java/lang/ArrayIndexOutOfBoundsException" tx) : W p l e R s m args below meth c H locs cells slots Q (F0 m pc ls (.int i :: .ref a :: rest)) := by
  intro T hT X
  obtain ⟨t, st, q⟩ := k _ rfl T hT X
  refine ⟨t, ?_, q⟩
  have h1 := X.baloadOut hexec (by rw [hT]; exact hP q0 _ ha) ((hK.2 t0 _ ht).1 n (fun j => .int (f j))) (j := i) (by show (i < 0 ∨ (arrV _ _ _).slots.size ≤ _); rw [arrV_size]; exact Classical.byContradiction hout) (g := F0 m pc ls (.int i :: .ref a :: rest)) rfl (rest := rest) rfl (by rw [hb]; exact hdg) t
  simp only [arrV_size] at h1
  exact h1 st
theorem vx_zastZ {D : va_G} {cl : List vw_C} {ws : va_W} {tys : List (ClassId × FieldType)} {a : Nat} (hexec : p.tables.exec = Jvm.exec) (hb : c.code = cc) (hK : va_K D cl tys s) (hP : va_P D cl ws H) (q0 t0 : Nat) {cA : ClassId} {n : Nat} {f : Nat → Int32} (ha : ws[q0]? = some (a, .inl (cA, n, .inl f))) (ht : tys[t0]? = some (cA, .boolean)) {i : Int32} {x : Int32} (hout : ¬ vp_in i n) (hdg : decode cc pc = .ok (.bastore, 1))
    (k : ∀ tx : String, tx = (toString "Index " ++ toString i ++ toString " out of bounds for length " ++ toString n : String) → vx_Note p l e R s m args below meth c H locs cells slots Q (F0 m pc ls rest) "java/lang/ArrayIndexOutOfBoundsException" tx) : W p l e R s m args below meth c H locs cells slots Q (F0 m pc ls (.int x :: .int i :: .ref a :: rest)) := by
  intro T hT X
  obtain ⟨t, st, q⟩ := k _ rfl T hT X
  refine ⟨t, ?_, q⟩
  have h1 := X.bastoreOut hexec (by rw [hT]; exact hP q0 _ ha) ((hK.2 t0 _ ht).1 n (fun j => .int (f j))) (j := i) (by show (i < 0 ∨ (arrV _ _ _).slots.size ≤ _); rw [arrV_size]; exact Classical.byContradiction hout) (g := F0 m pc ls (.int x :: .int i :: .ref a :: rest)) rfl (rest := rest) rfl (by rw [hb]; exact hdg) t
  simp only [arrV_size] at h1
  exact h1 st
theorem vx_caldZ {D : va_G} {cl : List vw_C} {ws : va_W} {tys : List (ClassId × FieldType)} {a : Nat} (hexec : p.tables.exec = Jvm.exec) (hb : c.code = cc) (hK : va_K D cl tys s) (hP : va_P D cl ws H) (q0 t0 : Nat) {cA : ClassId} {n : Nat} {f : Nat → Int32} (ha : ws[q0]? = some (a, .inl (cA, n, .inl f))) (ht : tys[t0]? = some (cA, .char)) {i : Int32} (hout : ¬ vp_in i n) (hdg : decode cc pc = .ok (.caload, 1))
    (k : ∀ tx : String, tx = (toString "Index " ++ toString i ++ toString " out of bounds for length " ++ toString n : String) → vx_Note p l e R s m args below meth c H locs cells slots Q (F0 m pc ls rest) "java/lang/ArrayIndexOutOfBoundsException" tx) : W p l e R s m args below meth c H locs cells slots Q (F0 m pc ls (.int i :: .ref a :: rest)) := by
  intro T hT X
  obtain ⟨t, st, q⟩ := k _ rfl T hT X
  refine ⟨t, ?_, q⟩
  have h1 := X.caloadOut hexec (by rw [hT]; exact hP q0 _ ha) ((hK.2 t0 _ ht).1 n (fun j => .int (f j))) (j := i) (by show (i < 0 ∨ (arrV _ _ _).slots.size ≤ _); rw [arrV_size]; exact Classical.byContradiction hout) (g := F0 m pc ls (.int i :: .ref a :: rest)) rfl (rest := rest) rfl (by rw [hb]; exact hdg) t
  simp only [arrV_size] at h1
  exact h1 st
theorem vx_castZ {D : va_G} {cl : List vw_C} {ws : va_W} {tys : List (ClassId × FieldType)} {a : Nat} (hexec : p.tables.exec = Jvm.exec) (hb : c.code = cc) (hK : va_K D cl tys s) (hP : va_P D cl ws H) (q0 t0 : Nat) {cA : ClassId} {n : Nat} {f : Nat → Int32} (ha : ws[q0]? = some (a, .inl (cA, n, .inl f))) (ht : tys[t0]? = some (cA, .char)) {i : Int32} {x : Int32} (hout : ¬ vp_in i n) (hdg : decode cc pc = .ok (.castore, 1))
    (k : ∀ tx : String, tx = (toString "Index " ++ toString i ++ toString " out of bounds for length " ++ toString n : String) → vx_Note p l e R s m args below meth c H locs cells slots Q (F0 m pc ls rest) "java/lang/ArrayIndexOutOfBoundsException" tx) : W p l e R s m args below meth c H locs cells slots Q (F0 m pc ls (.int x :: .int i :: .ref a :: rest)) := by
  intro T hT X
  obtain ⟨t, st, q⟩ := k _ rfl T hT X
  refine ⟨t, ?_, q⟩
  have h1 := X.castoreOut hexec (by rw [hT]; exact hP q0 _ ha) ((hK.2 t0 _ ht).1 n (fun j => .int (f j))) (j := i) (by show (i < 0 ∨ (arrV _ _ _).slots.size ≤ _); rw [arrV_size]; exact Classical.byContradiction hout) (g := F0 m pc ls (.int x :: .int i :: .ref a :: rest)) rfl (rest := rest) rfl (by rw [hb]; exact hdg) t
  simp only [arrV_size] at h1
  exact h1 st
theorem vx_saldZ {D : va_G} {cl : List vw_C} {ws : va_W} {tys : List (ClassId × FieldType)} {a : Nat} (hexec : p.tables.exec = Jvm.exec) (hb : c.code = cc) (hK : va_K D cl tys s) (hP : va_P D cl ws H) (q0 t0 : Nat) {cA : ClassId} {n : Nat} {f : Nat → Int32} (ha : ws[q0]? = some (a, .inl (cA, n, .inl f))) (ht : tys[t0]? = some (cA, .short)) {i : Int32} (hout : ¬ vp_in i n) (hdg : decode cc pc = .ok (.saload, 1))
    (k : ∀ tx : String, tx = (toString "Index " ++ toString i ++ toString " out of bounds for length " ++ toString n : String) → vx_Note p l e R s m args below meth c H locs cells slots Q (F0 m pc ls rest) "java/lang/ArrayIndexOutOfBoundsException" tx) : W p l e R s m args below meth c H locs cells slots Q (F0 m pc ls (.int i :: .ref a :: rest)) := by
  intro T hT X
  obtain ⟨t, st, q⟩ := k _ rfl T hT X
  refine ⟨t, ?_, q⟩
  have h1 := X.saloadOut hexec (by rw [hT]; exact hP q0 _ ha) ((hK.2 t0 _ ht).1 n (fun j => .int (f j))) (j := i) (by show (i < 0 ∨ (arrV _ _ _).slots.size ≤ _); rw [arrV_size]; exact Classical.byContradiction hout) (g := F0 m pc ls (.int i :: .ref a :: rest)) rfl (rest := rest) rfl (by rw [hb]; exact hdg) t
  simp only [arrV_size] at h1
  exact h1 st
theorem vx_sastZ {D : va_G} {cl : List vw_C} {ws : va_W} {tys : List (ClassId × FieldType)} {a : Nat} (hexec : p.tables.exec = Jvm.exec) (hb : c.code = cc) (hK : va_K D cl tys s) (hP : va_P D cl ws H) (q0 t0 : Nat) {cA : ClassId} {n : Nat} {f : Nat → Int32} (ha : ws[q0]? = some (a, .inl (cA, n, .inl f))) (ht : tys[t0]? = some (cA, .short)) {i : Int32} {x : Int32} (hout : ¬ vp_in i n) (hdg : decode cc pc = .ok (.sastore, 1))
    (k : ∀ tx : String, tx = (toString "Index " ++ toString i ++ toString " out of bounds for length " ++ toString n : String) → vx_Note p l e R s m args below meth c H locs cells slots Q (F0 m pc ls rest) "java/lang/ArrayIndexOutOfBoundsException" tx) : W p l e R s m args below meth c H locs cells slots Q (F0 m pc ls (.int x :: .int i :: .ref a :: rest)) := by
  intro T hT X
  obtain ⟨t, st, q⟩ := k _ rfl T hT X
  refine ⟨t, ?_, q⟩
  have h1 := X.sastoreOut hexec (by rw [hT]; exact hP q0 _ ha) ((hK.2 t0 _ ht).1 n (fun j => .int (f j))) (j := i) (by show (i < 0 ∨ (arrV _ _ _).slots.size ≤ _); rw [arrV_size]; exact Classical.byContradiction hout) (g := F0 m pc ls (.int x :: .int i :: .ref a :: rest)) rfl (rest := rest) rfl (by rw [hb]; exact hdg) t
  simp only [arrV_size] at h1
  exact h1 st
theorem vx_laldZ {D : va_G} {cl : List vw_C} {ws : va_W} {tys : List (ClassId × FieldType)} {a : Nat} (hexec : p.tables.exec = Jvm.exec) (hb : c.code = cc) (hK : va_K D cl tys s) (hP : va_P D cl ws H) (q0 t0 : Nat) {cA : ClassId} {n : Nat} {f : Nat → Int64} (ha : ws[q0]? = some (a, .inl (cA, n, .inr (.inl f)))) (ht : tys[t0]? = some (cA, .long)) {i : Int32} (hout : ¬ vp_in i n) (hdg : decode cc pc = .ok (.laload, 1))
    (k : ∀ tx : String, tx = (toString "Index " ++ toString i ++ toString " out of bounds for length " ++ toString n : String) → vx_Note p l e R s m args below meth c H locs cells slots Q (F0 m pc ls rest) "java/lang/ArrayIndexOutOfBoundsException" tx) : W p l e R s m args below meth c H locs cells slots Q (F0 m pc ls (.int i :: .ref a :: rest)) := by
  intro T hT X
  obtain ⟨t, st, q⟩ := k _ rfl T hT X
  refine ⟨t, ?_, q⟩
  have h1 := X.laloadOut hexec (by rw [hT]; exact hP q0 _ ha) ((hK.2 t0 _ ht).1 n (fun j => .long (f j))) (j := i) (by show (i < 0 ∨ (arrV _ _ _).slots.size ≤ _); rw [arrV_size]; exact Classical.byContradiction hout) (g := F0 m pc ls (.int i :: .ref a :: rest)) rfl (rest := rest) rfl (by rw [hb]; exact hdg) t
  simp only [arrV_size] at h1
  exact h1 st
theorem vx_lastZ {D : va_G} {cl : List vw_C} {ws : va_W} {tys : List (ClassId × FieldType)} {a : Nat} (hexec : p.tables.exec = Jvm.exec) (hb : c.code = cc) (hK : va_K D cl tys s) (hP : va_P D cl ws H) (q0 t0 : Nat) {cA : ClassId} {n : Nat} {f : Nat → Int64} (ha : ws[q0]? = some (a, .inl (cA, n, .inr (.inl f)))) (ht : tys[t0]? = some (cA, .long)) {i : Int32} {x : Int64} (hout : ¬ vp_in i n) (hdg : decode cc pc = .ok (.lastore, 1))
    (k : ∀ tx : String, tx = (toString "Index " ++ toString i ++ toString " out of bounds for length " ++ toString n : String) → vx_Note p l e R s m args below meth c H locs cells slots Q (F0 m pc ls rest) "java/lang/ArrayIndexOutOfBoundsException" tx) : W p l e R s m args below meth c H locs cells slots Q (F0 m pc ls (.long x :: .int i :: .ref a :: rest)) := by
  intro T hT X
  obtain ⟨t, st, q⟩ := k _ rfl T hT X
  refine ⟨t, ?_, q⟩
  have h1 := X.lastoreOut hexec (by rw [hT]; exact hP q0 _ ha) ((hK.2 t0 _ ht).1 n (fun j => .long (f j))) (j := i) (by show (i < 0 ∨ (arrV _ _ _).slots.size ≤ _); rw [arrV_size]; exact Classical.byContradiction hout) (g := F0 m pc ls (.long x :: .int i :: .ref a :: rest)) rfl (rest := rest) rfl (by rw [hb]; exact hdg) t
  simp only [arrV_size] at h1
  exact h1 st
theorem vx_faldZ {D : va_G} {cl : List vw_C} {ws : va_W} {tys : List (ClassId × FieldType)} {a : Nat} (hexec : p.tables.exec = Jvm.exec) (hb : c.code = cc) (hK : va_K D cl tys s) (hP : va_P D cl ws H) (q0 t0 : Nat) {cA : ClassId} {n : Nat} {f : Nat → UInt32} (ha : ws[q0]? = some (a, .inl (cA, n, .inr (.inr (.inl f))))) (ht : tys[t0]? = some (cA, .float)) {i : Int32} (hout : ¬ vp_in i n) (hdg : decode cc pc = .ok (.faload, 1))
    (k : ∀ tx : String, tx = (toString "Index " ++ toString i ++ toString " out of bounds for length " ++ toString n : String) → vx_Note p l e R s m args below meth c H locs cells slots Q (F0 m pc ls rest) "java/lang/ArrayIndexOutOfBoundsException" tx) : W p l e R s m args below meth c H locs cells slots Q (F0 m pc ls (.int i :: .ref a :: rest)) := by
  intro T hT X
  obtain ⟨t, st, q⟩ := k _ rfl T hT X
  refine ⟨t, ?_, q⟩
  have h1 := X.faloadOut hexec (by rw [hT]; exact hP q0 _ ha) ((hK.2 t0 _ ht).1 n (fun j => .float (f j))) (j := i) (by show (i < 0 ∨ (arrV _ _ _).slots.size ≤ _); rw [arrV_size]; exact Classical.byContradiction hout) (g := F0 m pc ls (.int i :: .ref a :: rest)) rfl (rest := rest) rfl (by rw [hb]; exact hdg) t
  simp only [arrV_size] at h1
  exact h1 st
theorem vx_fastZ {D : va_G} {cl : List vw_C} {ws : va_W} {tys : List (ClassId × FieldType)} {a : Nat} (hexec : p.tables.exec = Jvm.exec) (hb : c.code = cc) (hK : va_K D cl tys s) (hP : va_P D cl ws H) (q0 t0 : Nat) {cA : ClassId} {n : Nat} {f : Nat → UInt32} (ha : ws[q0]? = some (a, .inl (cA, n, .inr (.inr (.inl f))))) (ht : tys[t0]? = some (cA, .float)) {i : Int32} {x : UInt32} (hout : ¬ vp_in i n) (hdg : decode cc pc = .ok (.fastore, 1))
    (k : ∀ tx : String, tx = (toString "Index " ++ toString i ++ toString " out of bounds for length " ++ toString n : String) → vx_Note p l e R s m args below meth c H locs cells slots Q (F0 m pc ls rest) "java/lang/ArrayIndexOutOfBoundsException" tx) : W p l e R s m args below meth c H locs cells slots Q (F0 m pc ls (.float x :: .int i :: .ref a :: rest)) := by
  intro T hT X
  obtain ⟨t, st, q⟩ := k _ rfl T hT X
  refine ⟨t, ?_, q⟩
  have h1 := X.fastoreOut hexec (by rw [hT]; exact hP q0 _ ha) ((hK.2 t0 _ ht).1 n (fun j => .float (f j))) (j := i) (by show (i < 0 ∨ (arrV _ _ _).slots.size ≤ _); rw [arrV_size]; exact Classical.byContradiction hout) (g := F0 m pc ls (.float x :: .int i :: .ref a :: rest)) rfl (rest := rest) rfl (by rw [hb]; exact hdg) t
  simp only [arrV_size] at h1
  exact h1 st
theorem vx_daldZ {D : va_G} {cl : List vw_C} {ws : va_W} {tys : List (ClassId × FieldType)} {a : Nat} (hexec : p.tables.exec = Jvm.exec) (hb : c.code = cc) (hK : va_K D cl tys s) (hP : va_P D cl ws H) (q0 t0 : Nat) {cA : ClassId} {n : Nat} {f : Nat → UInt64} (ha : ws[q0]? = some (a, .inl (cA, n, .inr (.inr (.inr (.inl f)))))) (ht : tys[t0]? = some (cA, .double)) {i : Int32} (hout : ¬ vp_in i n) (hdg : decode cc pc = .ok (.daload, 1))
    (k : ∀ tx : String, tx = (toString "Index " ++ toString i ++ toString " out of bounds for length " ++ toString n : String) → vx_Note p l e R s m args below meth c H locs cells slots Q (F0 m pc ls rest) "java/lang/ArrayIndexOutOfBoundsException" tx) : W p l e R s m args below meth c H locs cells slots Q (F0 m pc ls (.int i :: .ref a :: rest)) := by
  intro T hT X
  obtain ⟨t, st, q⟩ := k _ rfl T hT X
  refine ⟨t, ?_, q⟩
  have h1 := X.daloadOut hexec (by rw [hT]; exact hP q0 _ ha) ((hK.2 t0 _ ht).1 n (fun j => .double (f j))) (j := i) (by show (i < 0 ∨ (arrV _ _ _).slots.size ≤ _); rw [arrV_size]; exact Classical.byContradiction hout) (g := F0 m pc ls (.int i :: .ref a :: rest)) rfl (rest := rest) rfl (by rw [hb]; exact hdg) t
  simp only [arrV_size] at h1
  exact h1 st
theorem vx_dastZ {D : va_G} {cl : List vw_C} {ws : va_W} {tys : List (ClassId × FieldType)} {a : Nat} (hexec : p.tables.exec = Jvm.exec) (hb : c.code = cc) (hK : va_K D cl tys s) (hP : va_P D cl ws H) (q0 t0 : Nat) {cA : ClassId} {n : Nat} {f : Nat → UInt64} (ha : ws[q0]? = some (a, .inl (cA, n, .inr (.inr (.inr (.inl f)))))) (ht : tys[t0]? = some (cA, .double)) {i : Int32} {x : UInt64} (hout : ¬ vp_in i n) (hdg : decode cc pc = .ok (.dastore, 1))
    (k : ∀ tx : String, tx = (toString "Index " ++ toString i ++ toString " out of bounds for length " ++ toString n : String) → vx_Note p l e R s m args below meth c H locs cells slots Q (F0 m pc ls rest) "java/lang/ArrayIndexOutOfBoundsException" tx) : W p l e R s m args below meth c H locs cells slots Q (F0 m pc ls (.double x :: .int i :: .ref a :: rest)) := by
  intro T hT X
  obtain ⟨t, st, q⟩ := k _ rfl T hT X
  refine ⟨t, ?_, q⟩
  have h1 := X.dastoreOut hexec (by rw [hT]; exact hP q0 _ ha) ((hK.2 t0 _ ht).1 n (fun j => .double (f j))) (j := i) (by show (i < 0 ∨ (arrV _ _ _).slots.size ≤ _); rw [arrV_size]; exact Classical.byContradiction hout) (g := F0 m pc ls (.double x :: .int i :: .ref a :: rest)) rfl (rest := rest) rfl (by rw [hb]; exact hdg) t
  simp only [arrV_size] at h1
  exact h1 st
theorem vx_arraylengthN (hexec : p.tables.exec = Jvm.exec) (hb : c.code = cc) (hdg : decode cc pc = .ok (.arraylength, 1)) (k : vx_NoteN p l e R s m args below meth c H locs cells slots Q (F0 m pc ls rest)) : W p l e R s m args below meth c H locs cells slots Q (F0 m pc ls (.null :: rest)) := by
  intro T hT X
  obtain ⟨t, st, q⟩ := k T hT X
  exact ⟨t, X.arraylengthNull hexec (g := F0 m pc ls (.null :: rest)) rfl (rest := rest) rfl (by rw [hb]; exact hdg) t st, q⟩
theorem vx_ialoadN (hexec : p.tables.exec = Jvm.exec) (hb : c.code = cc) {i : Int32} (hdg : decode cc pc = .ok (.iaload, 1)) (k : vx_NoteN p l e R s m args below meth c H locs cells slots Q (F0 m pc ls rest)) : W p l e R s m args below meth c H locs cells slots Q (F0 m pc ls (.int i :: .null :: rest)) := by
  intro T hT X
  obtain ⟨t, st, q⟩ := k T hT X
  exact ⟨t, X.ialoadNull hexec (g := F0 m pc ls (.int i :: .null :: rest)) rfl (rest := rest) rfl (by rw [hb]; exact hdg) t st, q⟩
theorem vx_laloadN (hexec : p.tables.exec = Jvm.exec) (hb : c.code = cc) {i : Int32} (hdg : decode cc pc = .ok (.laload, 1)) (k : vx_NoteN p l e R s m args below meth c H locs cells slots Q (F0 m pc ls rest)) : W p l e R s m args below meth c H locs cells slots Q (F0 m pc ls (.int i :: .null :: rest)) := by
  intro T hT X
  obtain ⟨t, st, q⟩ := k T hT X
  exact ⟨t, X.laloadNull hexec (g := F0 m pc ls (.int i :: .null :: rest)) rfl (rest := rest) rfl (by rw [hb]; exact hdg) t st, q⟩
theorem vx_faloadN (hexec : p.tables.exec = Jvm.exec) (hb : c.code = cc) {i : Int32} (hdg : decode cc pc = .ok (.faload, 1)) (k : vx_NoteN p l e R s m args below meth c H locs cells slots Q (F0 m pc ls rest)) : W p l e R s m args below meth c H locs cells slots Q (F0 m pc ls (.int i :: .null :: rest)) := by
  intro T hT X
  obtain ⟨t, st, q⟩ := k T hT X
  exact ⟨t, X.faloadNull hexec (g := F0 m pc ls (.int i :: .null :: rest)) rfl (rest := rest) rfl (by rw [hb]; exact hdg) t st, q⟩
theorem vx_daloadN (hexec : p.tables.exec = Jvm.exec) (hb : c.code = cc) {i : Int32} (hdg : decode cc pc = .ok (.daload, 1)) (k : vx_NoteN p l e R s m args below meth c H locs cells slots Q (F0 m pc ls rest)) : W p l e R s m args below meth c H locs cells slots Q (F0 m pc ls (.int i :: .null :: rest)) := by
  intro T hT X
  obtain ⟨t, st, q⟩ := k T hT X
  exact ⟨t, X.daloadNull hexec (g := F0 m pc ls (.int i :: .null :: rest)) rfl (rest := rest) rfl (by rw [hb]; exact hdg) t st, q⟩
theorem vx_aaloadN (hexec : p.tables.exec = Jvm.exec) (hb : c.code = cc) {i : Int32} (hdg : decode cc pc = .ok (.aaload, 1)) (k : vx_NoteN p l e R s m args below meth c H locs cells slots Q (F0 m pc ls rest)) : W p l e R s m args below meth c H locs cells slots Q (F0 m pc ls (.int i :: .null :: rest)) := by
  intro T hT X
  obtain ⟨t, st, q⟩ := k T hT X
  exact ⟨t, X.aaloadNull hexec (g := F0 m pc ls (.int i :: .null :: rest)) rfl (rest := rest) rfl (by rw [hb]; exact hdg) t st, q⟩
theorem vx_baloadN (hexec : p.tables.exec = Jvm.exec) (hb : c.code = cc) {i : Int32} (hdg : decode cc pc = .ok (.baload, 1)) (k : vx_NoteN p l e R s m args below meth c H locs cells slots Q (F0 m pc ls rest)) : W p l e R s m args below meth c H locs cells slots Q (F0 m pc ls (.int i :: .null :: rest)) := by
  intro T hT X
  obtain ⟨t, st, q⟩ := k T hT X
  exact ⟨t, X.baloadNull hexec (g := F0 m pc ls (.int i :: .null :: rest)) rfl (rest := rest) rfl (by rw [hb]; exact hdg) t st, q⟩
theorem vx_caloadN (hexec : p.tables.exec = Jvm.exec) (hb : c.code = cc) {i : Int32} (hdg : decode cc pc = .ok (.caload, 1)) (k : vx_NoteN p l e R s m args below meth c H locs cells slots Q (F0 m pc ls rest)) : W p l e R s m args below meth c H locs cells slots Q (F0 m pc ls (.int i :: .null :: rest)) := by
  intro T hT X
  obtain ⟨t, st, q⟩ := k T hT X
  exact ⟨t, X.caloadNull hexec (g := F0 m pc ls (.int i :: .null :: rest)) rfl (rest := rest) rfl (by rw [hb]; exact hdg) t st, q⟩
theorem vx_saloadN (hexec : p.tables.exec = Jvm.exec) (hb : c.code = cc) {i : Int32} (hdg : decode cc pc = .ok (.saload, 1)) (k : vx_NoteN p l e R s m args below meth c H locs cells slots Q (F0 m pc ls rest)) : W p l e R s m args below meth c H locs cells slots Q (F0 m pc ls (.int i :: .null :: rest)) := by
  intro T hT X
  obtain ⟨t, st, q⟩ := k T hT X
  exact ⟨t, X.saloadNull hexec (g := F0 m pc ls (.int i :: .null :: rest)) rfl (rest := rest) rfl (by rw [hb]; exact hdg) t st, q⟩
theorem vx_iastoreN (hexec : p.tables.exec = Jvm.exec) (hb : c.code = cc) {x : Int32} {i : Int32} (hdg : decode cc pc = .ok (.iastore, 1)) (k : vx_NoteN p l e R s m args below meth c H locs cells slots Q (F0 m pc ls rest)) : W p l e R s m args below meth c H locs cells slots Q (F0 m pc ls (.int x :: .int i :: .null :: rest)) := by
  intro T hT X
  obtain ⟨t, st, q⟩ := k T hT X
  exact ⟨t, X.iastoreNull hexec (g := F0 m pc ls (.int x :: .int i :: .null :: rest)) rfl (rest := rest) rfl (by rw [hb]; exact hdg) t st, q⟩
theorem vx_lastoreN (hexec : p.tables.exec = Jvm.exec) (hb : c.code = cc) {x : Int64} {i : Int32} (hdg : decode cc pc = .ok (.lastore, 1)) (k : vx_NoteN p l e R s m args below meth c H locs cells slots Q (F0 m pc ls rest)) : W p l e R s m args below meth c H locs cells slots Q (F0 m pc ls (.long x :: .int i :: .null :: rest)) := by
  intro T hT X
  obtain ⟨t, st, q⟩ := k T hT X
  exact ⟨t, X.lastoreNull hexec (g := F0 m pc ls (.long x :: .int i :: .null :: rest)) rfl (rest := rest) rfl (by rw [hb]; exact hdg) t st, q⟩
theorem vx_fastoreN (hexec : p.tables.exec = Jvm.exec) (hb : c.code = cc) {x : UInt32} {i : Int32} (hdg : decode cc pc = .ok (.fastore, 1)) (k : vx_NoteN p l e R s m args below meth c H locs cells slots Q (F0 m pc ls rest)) : W p l e R s m args below meth c H locs cells slots Q (F0 m pc ls (.float x :: .int i :: .null :: rest)) := by
  intro T hT X
  obtain ⟨t, st, q⟩ := k T hT X
  exact ⟨t, X.fastoreNull hexec (g := F0 m pc ls (.float x :: .int i :: .null :: rest)) rfl (rest := rest) rfl (by rw [hb]; exact hdg) t st, q⟩
theorem vx_dastoreN (hexec : p.tables.exec = Jvm.exec) (hb : c.code = cc) {x : UInt64} {i : Int32} (hdg : decode cc pc = .ok (.dastore, 1)) (k : vx_NoteN p l e R s m args below meth c H locs cells slots Q (F0 m pc ls rest)) : W p l e R s m args below meth c H locs cells slots Q (F0 m pc ls (.double x :: .int i :: .null :: rest)) := by
  intro T hT X
  obtain ⟨t, st, q⟩ := k T hT X
  exact ⟨t, X.dastoreNull hexec (g := F0 m pc ls (.double x :: .int i :: .null :: rest)) rfl (rest := rest) rfl (by rw [hb]; exact hdg) t st, q⟩
theorem vx_bastoreN (hexec : p.tables.exec = Jvm.exec) (hb : c.code = cc) {x : Int32} {i : Int32} (hdg : decode cc pc = .ok (.bastore, 1)) (k : vx_NoteN p l e R s m args below meth c H locs cells slots Q (F0 m pc ls rest)) : W p l e R s m args below meth c H locs cells slots Q (F0 m pc ls (.int x :: .int i :: .null :: rest)) := by
  intro T hT X
  obtain ⟨t, st, q⟩ := k T hT X
  exact ⟨t, X.bastoreNull hexec (g := F0 m pc ls (.int x :: .int i :: .null :: rest)) rfl (rest := rest) rfl (by rw [hb]; exact hdg) t st, q⟩
theorem vx_castoreN (hexec : p.tables.exec = Jvm.exec) (hb : c.code = cc) {x : Int32} {i : Int32} (hdg : decode cc pc = .ok (.castore, 1)) (k : vx_NoteN p l e R s m args below meth c H locs cells slots Q (F0 m pc ls rest)) : W p l e R s m args below meth c H locs cells slots Q (F0 m pc ls (.int x :: .int i :: .null :: rest)) := by
  intro T hT X
  obtain ⟨t, st, q⟩ := k T hT X
  exact ⟨t, X.castoreNull hexec (g := F0 m pc ls (.int x :: .int i :: .null :: rest)) rfl (rest := rest) rfl (by rw [hb]; exact hdg) t st, q⟩
theorem vx_sastoreN (hexec : p.tables.exec = Jvm.exec) (hb : c.code = cc) {x : Int32} {i : Int32} (hdg : decode cc pc = .ok (.sastore, 1)) (k : vx_NoteN p l e R s m args below meth c H locs cells slots Q (F0 m pc ls rest)) : W p l e R s m args below meth c H locs cells slots Q (F0 m pc ls (.int x :: .int i :: .null :: rest)) := by
  intro T hT X
  obtain ⟨t, st, q⟩ := k T hT X
  exact ⟨t, X.sastoreNull hexec (g := F0 m pc ls (.int x :: .int i :: .null :: rest)) rfl (rest := rest) rfl (by rw [hb]; exact hdg) t st, q⟩
theorem vx_invokeN {own C : String} {index maxL : Nat} {y : MethodName} {bytes : ByteArray} {ret : Option FieldType} (hexec : p.tables.exec = Jvm.exec) (hb : c.code = cc) (hown : s.vm.findClass own = some m.cls) (hlink : (Cond.methodLink own index y).before args s = true) (hinst : (Cond.instanceMethod y).before args s = true) (hcode : (Cond.code y bytes maxL ret).before args s = true) (hsel : (Cond.selects C y y).before args s = true)
    (hx : y.cls ≠ "java/lang/invoke/MethodHandle" ∧ y.cls ≠ "java/lang/invoke/VarHandle") {As : List Value} (hlen : (parseMethodDescriptor y.desc).map (fun d => d.parameters.length) = some As.length) (hdg : decode cc pc = .ok (.invokevirtual index, 3))
    (k : vx_NoteN p l e R s m args below meth c H locs cells slots Q (F0 m pc ls rest)) {st0 : List Value} (hst : st0 = As.reverse ++ .null :: rest) : W p l e R s m args below meth c H locs cells slots Q (F0 m pc ls st0) := by
  intro T hT X
  obtain ⟨r0, r, hn, hrm, hstR, hsigR⟩ := va_Decl.of hinst hcode
  obtain ⟨c2, r2, m2, q1, q2, q3, q4, kP, hkP, hkPi⟩ := Cond.selects_spec hsel
  cases hn.symm.trans q3
  have hl9 : As.length = r.sig.parameters.length := by
    rw [hsigR] at hlen
    exact (Option.some.inj hlen).symm
  obtain ⟨vm', X1, st1⟩ := X.invokevirtualNull hexec hown hlink hn hrm hstR hkP hkPi hx (g := F0 m pc ls st0) rfl (argsL := As) (rest := rest) hl9 hst (by rw [hb]; exact hdg)
  obtain ⟨t, st, q⟩ := k (T.setVm vm') hT X1
  exact ⟨t, st1 t st, q⟩
theorem vx_newarrayZ {atype : ArrayType} (hexec : p.tables.exec = Jvm.exec) (hb : c.code = cc) {n : Int32} (h0 : n < 0) (hdg : decode cc pc = .ok (.newarray atype, 2)) (k : ∀ tx : String, tx = toString n → vx_Note p l e R s m args below meth c H locs cells slots Q (F0 m pc ls rest) "java/lang/NegativeArraySizeException" tx) : W p l e R s m args below meth c H locs cells slots Q (F0 m pc ls (.int n :: rest)) := by
  intro T hT X
  obtain ⟨t, st, q⟩ := k _ rfl T hT X
  exact ⟨t, X.newarrayNegative hexec (g := F0 m pc ls (.int n :: rest)) rfl h0 (rest := rest) rfl (by rw [hb]; exact hdg) t st, q⟩
end
end VXM
/-! ===== END ===== -/

def RX0 : String := "SmokeRacks$Fish"
def TX0 : u_T := fun k => match k with
  | 0 => ("SmokeRacks$Fish", "first", "LSmokeRacks$Side;", true)
  | 1 => ("SmokeRacks$Fish", "second", "LSmokeRacks$Side;", true)
  | 2 => ("SmokeRacks$Fish", "weight", "I", false)
  | 3 => ("SmokeRacks$Fish", "salt", "I", false)
  | 4 => ("SmokeRacks$Fish", "place", "I", false)
  | 5 => ("SmokeRacks$Fish", "rack", "I", false)
  | 6 => ("SmokeRacks$Fish", "hook", "I", false)
  | 7 => ("SmokeRacks$Fish", "down", "I", false)
  | _ => ("SmokeRacks$Fish", "isTurned", "Z", false)
def tyX0 : Nat → FieldType := fun k => match k with
  | 0 => .object "SmokeRacks$Side"
  | 1 => .object "SmokeRacks$Side"
  | 2 => .int
  | 3 => .int
  | 4 => .int
  | 5 => .int
  | 6 => .int
  | 7 => .int
  | _ => .boolean
abbrev wsX00 : List Cond := u_ws RX0 TX0 9
theorem nmX0 : ∀ a, a < 9 → ∀ b, b < 9 → a ≠ b → (TX0 a).2.1 ≠ (TX0 b).2.1 := by decide +kernel
theorem tyX0_ok : ∀ k, k < 9 → parseFieldDescriptor (TX0 k).2.2.1 = some (tyX0 k) := by decide +kernel
abbrev cX0_init : ByteArray := prog_2_method_1_code
def yX0_init : MethodName := ⟨RX0, "<init>", "()V"⟩
abbrev cX0_copyFrom : ByteArray := prog_2_method_2_code
def yX0_copyFrom : MethodName := ⟨RX0, "copyFrom", "(LSmokeRacks$Fish;)V"⟩
abbrev cX0_begin : ByteArray := prog_2_method_3_code
def yX0_begin : MethodName := ⟨RX0, "begin", "(I)V"⟩
abbrev cX0_moveTo : ByteArray := prog_2_method_4_code
def yX0_moveTo : MethodName := ⟨RX0, "moveTo", "(III)V"⟩
abbrev cX0_flip : ByteArray := prog_2_method_5_code
def yX0_flip : MethodName := ⟨RX0, "flip", "()V"⟩
abbrev cX0_addSalt : ByteArray := prog_2_method_6_code
def yX0_addSalt : MethodName := ⟨RX0, "addSalt", "(I)V"⟩
abbrev cX0_spendHour : ByteArray := prog_2_method_7_code
def yX0_spendHour : MethodName := ⟨RX0, "spendHour", "(II)V"⟩
abbrev cX0_side : ByteArray := prog_2_method_8_code
def yX0_side : MethodName := ⟨RX0, "side", "(I)LSmokeRacks$Side;"⟩
abbrev cX0_downSide : ByteArray := prog_2_method_9_code
def yX0_downSide : MethodName := ⟨RX0, "downSide", "()LSmokeRacks$Side;"⟩
abbrev cX0_hangs : ByteArray := prog_2_method_10_code
def yX0_hangs : MethodName := ⟨RX0, "hangs", "()Z"⟩
abbrev cX0_isBurnt : ByteArray := prog_2_method_11_code
def yX0_isBurnt : MethodName := ⟨RX0, "isBurnt", "()Z"⟩
abbrev cX0_isReady : ByteArray := prog_2_method_12_code
def yX0_isReady : MethodName := ⟨RX0, "isReady", "()Z"⟩
abbrev cX0_heatBorne : ByteArray := prog_2_method_13_code
def yX0_heatBorne : MethodName := ⟨RX0, "heatBorne", "()I"⟩
abbrev cX0_gapNeeded : ByteArray := prog_2_method_14_code
def yX0_gapNeeded : MethodName := ⟨RX0, "gapNeeded", "()I"⟩
abbrev cX0_smokeLacking : ByteArray := prog_2_method_15_code
def yX0_smokeLacking : MethodName := ⟨RX0, "smokeLacking", "()I"⟩
abbrev cX0_price : ByteArray := prog_2_method_16_code
def yX0_price : MethodName := ⟨RX0, "price", "()I"⟩
abbrev cX0_number : ByteArray := prog_2_method_17_code
def yX0_number : MethodName := ⟨RX0, "number", "(I)I"⟩
abbrev cX0_measured : ByteArray := prog_2_method_18_code
def yX0_measured : MethodName := ⟨RX0, "measured", "(I)I"⟩
def RX1 : String := "SmokeRacks$Forecast"
def TX1 : u_T := fun k => match k with
  | 0 => ("SmokeRacks$Forecast", "house", "LSmokeRacks$House;", true)
  | _ => ("SmokeRacks$Forecast", "trial", "LSmokeRacks$Fish;", true)
def tyX1 : Nat → FieldType := fun k => match k with
  | 0 => .object "SmokeRacks$House"
  | _ => .object "SmokeRacks$Fish"
abbrev wsX10 : List Cond := u_ws RX1 TX1 2
theorem nmX1 : ∀ a, a < 2 → ∀ b, b < 2 → a ≠ b → (TX1 a).2.1 ≠ (TX1 b).2.1 := by decide +kernel
theorem tyX1_ok : ∀ k, k < 2 → parseFieldDescriptor (TX1 k).2.2.1 = some (tyX1 k) := by decide +kernel
abbrev cX1_init : ByteArray := prog_3_method_1_code
def yX1_init : MethodName := ⟨RX1, "<init>", "(LSmokeRacks$House;)V"⟩
abbrev cX1_charHourByHour : ByteArray := prog_3_method_2_code
def yX1_charHourByHour : MethodName := ⟨RX1, "charHourByHour", "(II)I"⟩
abbrev cX1_charAtOnce : ByteArray := prog_3_method_3_code
def yX1_charAtOnce : MethodName := ⟨RX1, "charAtOnce", "(II)I"⟩
abbrev cX1_hoursUntilBurnt : ByteArray := prog_3_method_4_code
def yX1_hoursUntilBurnt : MethodName := ⟨RX1, "hoursUntilBurnt", "(I)I"⟩
abbrev cX1_hoursUntilReady : ByteArray := prog_3_method_5_code
def yX1_hoursUntilReady : MethodName := ⟨RX1, "hoursUntilReady", "(I)I"⟩
abbrev cX1_firstToBurn : ByteArray := prog_3_method_6_code
def yX1_firstToBurn : MethodName := ⟨RX1, "firstToBurn", "()I"⟩
abbrev cX1_tryHour : ByteArray := prog_3_method_7_code
def yX1_tryHour : MethodName := ⟨RX1, "tryHour", "(IZ)V"⟩
def RX2 : String := "SmokeRacks$History"
def TX2 : u_T := fun k => match k with
  | 0 => ("SmokeRacks$History", "kept", "[LSmokeRacks$House;", true)
  | _ => ("SmokeRacks$History", "count", "I", false)
def tyX2 : Nat → FieldType := fun k => match k with
  | 0 => .array (.object "SmokeRacks$House")
  | _ => .int
abbrev wsX20 : List Cond := u_ws RX2 TX2 2
theorem nmX2 : ∀ a, a < 2 → ∀ b, b < 2 → a ≠ b → (TX2 a).2.1 ≠ (TX2 b).2.1 := by decide +kernel
theorem tyX2_ok : ∀ k, k < 2 → parseFieldDescriptor (TX2 k).2.2.1 = some (tyX2 k) := by decide +kernel
abbrev cX2_init : ByteArray := prog_4_method_1_code
def yX2_init : MethodName := ⟨RX2, "<init>", "()V"⟩
abbrev cX2_keep : ByteArray := prog_4_method_2_code
def yX2_keep : MethodName := ⟨RX2, "keep", "(LSmokeRacks$House;)V"⟩
abbrev cX2_takeBack : ByteArray := prog_4_method_3_code
def yX2_takeBack : MethodName := ⟨RX2, "takeBack", "(LSmokeRacks$House;)V"⟩
abbrev cX2_forget : ByteArray := prog_4_method_4_code
def yX2_forget : MethodName := ⟨RX2, "forget", "()V"⟩
def RX3 : String := "SmokeRacks$House"
def TX3 : u_T := fun k => match k with
  | 0 => ("SmokeRacks$House", "rows", "[LSmokeRacks$Fish;", true)
  | 1 => ("SmokeRacks$House", "nobody", "LSmokeRacks$Fish;", true)
  | 2 => ("SmokeRacks$House", "count", "I", false)
  | 3 => ("SmokeRacks$House", "logs", "I", false)
  | 4 => ("SmokeRacks$House", "wood", "I", false)
  | 5 => ("SmokeRacks$House", "hoursSoFar", "I", false)
  | 6 => ("SmokeRacks$House", "daysSoFar", "I", false)
  | 7 => ("SmokeRacks$House", "soldSoFar", "I", false)
  | 8 => ("SmokeRacks$House", "earnedSoFar", "I", false)
  | _ => ("SmokeRacks$House", "thrownSoFar", "I", false)
def tyX3 : Nat → FieldType := fun k => match k with
  | 0 => .array (.object "SmokeRacks$Fish")
  | 1 => .object "SmokeRacks$Fish"
  | 2 => .int
  | 3 => .int
  | 4 => .int
  | 5 => .int
  | 6 => .int
  | 7 => .int
  | 8 => .int
  | _ => .int
abbrev wsX30 : List Cond := u_ws RX3 TX3 10
theorem nmX3 : ∀ a, a < 10 → ∀ b, b < 10 → a ≠ b → (TX3 a).2.1 ≠ (TX3 b).2.1 := by decide +kernel
theorem tyX3_ok : ∀ k, k < 10 → parseFieldDescriptor (TX3 k).2.2.1 = some (tyX3 k) := by decide +kernel
abbrev cX3_init : ByteArray := prog_5_method_1_code
def yX3_init : MethodName := ⟨RX3, "<init>", "()V"⟩
abbrev cX3_copyFrom : ByteArray := prog_5_method_2_code
def yX3_copyFrom : MethodName := ⟨RX3, "copyFrom", "(LSmokeRacks$House;)V"⟩
abbrev cX3_has : ByteArray := prog_5_method_3_code
def yX3_has : MethodName := ⟨RX3, "has", "(I)Z"⟩
abbrev cX3_fishAt : ByteArray := prog_5_method_4_code
def yX3_fishAt : MethodName := ⟨RX3, "fishAt", "(I)LSmokeRacks$Fish;"⟩
abbrev cX3_addFish : ByteArray := prog_5_method_5_code
def yX3_addFish : MethodName := ⟨RX3, "addFish", "(I)V"⟩
abbrev cX3_removeFish : ByteArray := prog_5_method_6_code
def yX3_removeFish : MethodName := ⟨RX3, "removeFish", "(I)V"⟩
abbrev cX3_countIn : ByteArray := prog_5_method_7_code
def yX3_countIn : MethodName := ⟨RX3, "countIn", "(I)I"⟩
abbrev cX3_countOnRack : ByteArray := prog_5_method_8_code
def yX3_countOnRack : MethodName := ⟨RX3, "countOnRack", "(I)I"⟩
abbrev cX3_burntCount : ByteArray := prog_5_method_9_code
def yX3_burntCount : MethodName := ⟨RX3, "burntCount", "()I"⟩
abbrev cX3_allSmoke : ByteArray := prog_5_method_10_code
def yX3_allSmoke : MethodName := ⟨RX3, "allSmoke", "()I"⟩
abbrev cX3_saltInBrine : ByteArray := prog_5_method_11_code
def yX3_saltInBrine : MethodName := ⟨RX3, "saltInBrine", "()I"⟩
abbrev cX3_fishOn : ByteArray := prog_5_method_12_code
def yX3_fishOn : MethodName := ⟨RX3, "fishOn", "(II)I"⟩
abbrev cX3_letterOn : ByteArray := prog_5_method_13_code
def yX3_letterOn : MethodName := ⟨RX3, "letterOn", "(II)C"⟩
abbrev cX3_nearestOther : ByteArray := prog_5_method_14_code
def yX3_nearestOther : MethodName := ⟨RX3, "nearestOther", "(III)I"⟩
abbrev cX3_nearestTo : ByteArray := prog_5_method_15_code
def yX3_nearestTo : MethodName := ⟨RX3, "nearestTo", "(I)I"⟩
abbrev cX3_hangsTooNear : ByteArray := prog_5_method_16_code
def yX3_hangsTooNear : MethodName := ⟨RX3, "hangsTooNear", "(I)Z"⟩
abbrev cX3_farthestHook : ByteArray := prog_5_method_17_code
def yX3_farthestHook : MethodName := ⟨RX3, "farthestHook", "(II)I"⟩
abbrev cX3_fishAtPlace : ByteArray := prog_5_method_18_code
def yX3_fishAtPlace : MethodName := ⟨RX3, "fishAtPlace", "(II)I"⟩
abbrev cX3_placeOf : ByteArray := prog_5_method_19_code
def yX3_placeOf : MethodName := ⟨RX3, "placeOf", "(II)I"⟩
abbrev cX3_smokeOne : ByteArray := prog_5_method_20_code
def yX3_smokeOne : MethodName := ⟨RX3, "smokeOne", "(LSmokeRacks$Fish;IZ)V"⟩
abbrev cX3_passHour : ByteArray := prog_5_method_21_code
def yX3_passHour : MethodName := ⟨RX3, "passHour", "()V"⟩
def RX4 : String := "SmokeRacks$Line"
def TX4 : u_T := fun k => match k with
  | 0 => ("SmokeRacks$Line", "signs", "[C", true)
  | _ => ("SmokeRacks$Line", "length", "I", false)
def tyX4 : Nat → FieldType := fun k => match k with
  | 0 => .array .char
  | _ => .int
abbrev wsX40 : List Cond := u_ws RX4 TX4 2
theorem nmX4 : ∀ a, a < 2 → ∀ b, b < 2 → a ≠ b → (TX4 a).2.1 ≠ (TX4 b).2.1 := by decide +kernel
theorem tyX4_ok : ∀ k, k < 2 → parseFieldDescriptor (TX4 k).2.2.1 = some (tyX4 k) := by decide +kernel
abbrev cX4_init : ByteArray := prog_6_method_1_code
def yX4_init : MethodName := ⟨RX4, "<init>", "()V"⟩
abbrev cX4_empty : ByteArray := prog_6_method_2_code
def yX4_empty : MethodName := ⟨RX4, "empty", "()V"⟩
abbrev cX4_add : ByteArray := prog_6_method_3_code
def yX4_add : MethodName := ⟨RX4, "add", "(C)V"⟩
abbrev cX4_addNumber : ByteArray := prog_6_method_4_code
def yX4_addNumber : MethodName := ⟨RX4, "addNumber", "(I)V"⟩
abbrev cX4_addSide : ByteArray := prog_6_method_5_code
def yX4_addSide : MethodName := ⟨RX4, "addSide", "(LSmokeRacks$Side;Z)V"⟩
abbrev cX4_signAt : ByteArray := prog_6_method_6_code
def yX4_signAt : MethodName := ⟨RX4, "signAt", "(I)C"⟩
def RX5 : String := "SmokeRacks$Refusal"
def TX5 : u_T := fun k => match k with
  | 0 => ("SmokeRacks$Refusal", "isKept", "Z", false)
  | 1 => ("SmokeRacks$Refusal", "current", "I", false)
  | 2 => ("SmokeRacks$Refusal", "reason", "I", false)
  | 3 => ("SmokeRacks$Refusal", "detail", "I", false)
  | _ => ("SmokeRacks$Refusal", "command", "I", false)
def tyX5 : Nat → FieldType := fun k => match k with
  | 0 => .boolean
  | 1 => .int
  | 2 => .int
  | 3 => .int
  | _ => .int
abbrev wsX50 : List Cond := u_ws RX5 TX5 5
theorem nmX5 : ∀ a, a < 5 → ∀ b, b < 5 → a ≠ b → (TX5 a).2.1 ≠ (TX5 b).2.1 := by decide +kernel
theorem tyX5_ok : ∀ k, k < 5 → parseFieldDescriptor (TX5 k).2.2.1 = some (tyX5 k) := by decide +kernel
abbrev cX5_init : ByteArray := prog_7_method_1_code
def yX5_init : MethodName := ⟨RX5, "<init>", "()V"⟩
abbrev cX5_keep : ByteArray := prog_7_method_2_code
def yX5_keep : MethodName := ⟨RX5, "keep", "(II)I"⟩
abbrev cX5_number : ByteArray := prog_7_method_3_code
def yX5_number : MethodName := ⟨RX5, "number", "(I)I"⟩
def RX6 : String := "SmokeRacks$Script"
def TX6 : u_T := fun k => match k with
  | 0 => ("SmokeRacks$Script", "signs", "[C", true)
  | 1 => ("SmokeRacks$Script", "length", "I", false)
  | 2 => ("SmokeRacks$Script", "fault", "I", false)
  | 3 => ("SmokeRacks$Script", "commandCount", "I", false)
  | 4 => ("SmokeRacks$Script", "cursor", "I", false)
  | 5 => ("SmokeRacks$Script", "kind", "C", false)
  | 6 => ("SmokeRacks$Script", "number", "I", false)
  | 7 => ("SmokeRacks$Script", "rack", "I", false)
  | _ => ("SmokeRacks$Script", "hook", "I", false)
def tyX6 : Nat → FieldType := fun k => match k with
  | 0 => .array .char
  | 1 => .int
  | 2 => .int
  | 3 => .int
  | 4 => .int
  | 5 => .char
  | 6 => .int
  | 7 => .int
  | _ => .int
abbrev wsX60 : List Cond := u_ws RX6 TX6 9
theorem nmX6 : ∀ a, a < 9 → ∀ b, b < 9 → a ≠ b → (TX6 a).2.1 ≠ (TX6 b).2.1 := by decide +kernel
theorem tyX6_ok : ∀ k, k < 9 → parseFieldDescriptor (TX6 k).2.2.1 = some (tyX6 k) := by decide +kernel
abbrev cX6_init : ByteArray := prog_8_method_1_code
def yX6_init : MethodName := ⟨RX6, "<init>", "()V"⟩
abbrev cX6_add : ByteArray := prog_8_method_2_code
def yX6_add : MethodName := ⟨RX6, "add", "(C)V"⟩
abbrev cX6_empty : ByteArray := prog_8_method_3_code
def yX6_empty : MethodName := ⟨RX6, "empty", "()V"⟩
abbrev cX6_rewind : ByteArray := prog_8_method_4_code
def yX6_rewind : MethodName := ⟨RX6, "rewind", "()V"⟩
abbrev cX6_pass : ByteArray := prog_8_method_5_code
def yX6_pass : MethodName := ⟨RX6, "pass", "()V"⟩
abbrev cX6_examine : ByteArray := prog_8_method_6_code
def yX6_examine : MethodName := ⟨RX6, "examine", "()V"⟩
abbrev cX6_findFault : ByteArray := prog_8_method_7_code
def yX6_findFault : MethodName := ⟨RX6, "findFault", "()I"⟩
abbrev cX6_readCommand : ByteArray := prog_8_method_8_code
def yX6_readCommand : MethodName := ⟨RX6, "readCommand", "()Z"⟩
abbrev cX6_readHook : ByteArray := prog_8_method_9_code
def yX6_readHook : MethodName := ⟨RX6, "readHook", "()Z"⟩
abbrev cX6_readNumber : ByteArray := prog_8_method_10_code
def yX6_readNumber : MethodName := ⟨RX6, "readNumber", "(I)I"⟩
abbrev cX6_signNow : ByteArray := prog_8_method_11_code
def yX6_signNow : MethodName := ⟨RX6, "signNow", "()C"⟩
abbrev cX6_isDigit : ByteArray := prog_8_method_12_code
def yX6_isDigit : MethodName := ⟨RX6, "isDigit", "(C)Z"⟩
def RX7 : String := "SmokeRacks$Side"
def TX7 : u_T := fun k => match k with
  | 0 => ("SmokeRacks$Side", "smoke", "I", false)
  | _ => ("SmokeRacks$Side", "charred", "I", false)
def tyX7 : Nat → FieldType := fun k => match k with
  | 0 => .int
  | _ => .int
abbrev wsX70 : List Cond := u_ws RX7 TX7 2
theorem nmX7 : ∀ a, a < 2 → ∀ b, b < 2 → a ≠ b → (TX7 a).2.1 ≠ (TX7 b).2.1 := by decide +kernel
theorem tyX7_ok : ∀ k, k < 2 → parseFieldDescriptor (TX7 k).2.2.1 = some (tyX7 k) := by decide +kernel
abbrev cX7_init : ByteArray := prog_9_method_1_code
def yX7_init : MethodName := ⟨RX7, "<init>", "()V"⟩
abbrev cX7_copyFrom : ByteArray := prog_9_method_2_code
def yX7_copyFrom : MethodName := ⟨RX7, "copyFrom", "(LSmokeRacks$Side;)V"⟩
abbrev cX7_clear : ByteArray := prog_9_method_3_code
def yX7_clear : MethodName := ⟨RX7, "clear", "()V"⟩
abbrev cX7_addSmoke : ByteArray := prog_9_method_4_code
def yX7_addSmoke : MethodName := ⟨RX7, "addSmoke", "(I)V"⟩
abbrev cX7_addChar : ByteArray := prog_9_method_5_code
def yX7_addChar : MethodName := ⟨RX7, "addChar", "(I)V"⟩
abbrev cX7_isBurnt : ByteArray := prog_9_method_6_code
def yX7_isBurnt : MethodName := ⟨RX7, "isBurnt", "()Z"⟩
def RX8 : String := "SmokeRacks$Work"
def TX8 : u_T := fun k => match k with
  | 0 => ("SmokeRacks$Work", "house", "LSmokeRacks$House;", true)
  | _ => ("SmokeRacks$Work", "refusal", "LSmokeRacks$Refusal;", true)
def tyX8 : Nat → FieldType := fun k => match k with
  | 0 => .object "SmokeRacks$House"
  | _ => .object "SmokeRacks$Refusal"
abbrev wsX80 : List Cond := u_ws RX8 TX8 2
theorem nmX8 : ∀ a, a < 2 → ∀ b, b < 2 → a ≠ b → (TX8 a).2.1 ≠ (TX8 b).2.1 := by decide +kernel
theorem tyX8_ok : ∀ k, k < 2 → parseFieldDescriptor (TX8 k).2.2.1 = some (tyX8 k) := by decide +kernel
abbrev cX8_init : ByteArray := prog_10_method_1_code
def yX8_init : MethodName := ⟨RX8, "<init>", "(LSmokeRacks$House;LSmokeRacks$Refusal;)V"⟩
abbrev cX8_letCome : ByteArray := prog_10_method_2_code
def yX8_letCome : MethodName := ⟨RX8, "letCome", "(I)I"⟩
abbrev cX8_layIntoBrine : ByteArray := prog_10_method_3_code
def yX8_layIntoBrine : MethodName := ⟨RX8, "layIntoBrine", "(I)I"⟩
abbrev cX8_takeOut : ByteArray := prog_10_method_4_code
def yX8_takeOut : MethodName := ⟨RX8, "takeOut", "(I)I"⟩
abbrev cX8_hangUp : ByteArray := prog_10_method_5_code
def yX8_hangUp : MethodName := ⟨RX8, "hangUp", "(III)I"⟩
abbrev cX8_turnOver : ByteArray := prog_10_method_6_code
def yX8_turnOver : MethodName := ⟨RX8, "turnOver", "(I)I"⟩
abbrev cX8_turnRack : ByteArray := prog_10_method_7_code
def yX8_turnRack : MethodName := ⟨RX8, "turnRack", "(I)I"⟩
abbrev cX8_layLogs : ByteArray := prog_10_method_8_code
def yX8_layLogs : MethodName := ⟨RX8, "layLogs", "(I)I"⟩
abbrev cX8_tellWood : ByteArray := prog_10_method_9_code
def yX8_tellWood : MethodName := ⟨RX8, "tellWood", "(I)I"⟩
abbrev cX8_passDay : ByteArray := prog_10_method_10_code
def yX8_passDay : MethodName := ⟨RX8, "passDay", "()I"⟩
abbrev cX8_passHours : ByteArray := prog_10_method_11_code
def yX8_passHours : MethodName := ⟨RX8, "passHours", "(I)I"⟩
abbrev cX8_sellOff : ByteArray := prog_10_method_12_code
def yX8_sellOff : MethodName := ⟨RX8, "sellOff", "(I)I"⟩
abbrev cX8_discard : ByteArray := prog_10_method_13_code
def yX8_discard : MethodName := ⟨RX8, "discard", "(I)I"⟩
abbrev cX8_carryOut : ByteArray := prog_10_method_14_code
def yX8_carryOut : MethodName := ⟨RX8, "carryOut", "(LSmokeRacks$Script;)I"⟩
def RX9 : String := "SmokeRacks"
def TX9 : u_T := fun k => match k with
  | 0 => ("SmokeRacks", "house", "LSmokeRacks$House;", true)
  | 1 => ("SmokeRacks", "before", "LSmokeRacks$House;", true)
  | 2 => ("SmokeRacks", "snapshot", "LSmokeRacks$House;", true)
  | 3 => ("SmokeRacks", "history", "LSmokeRacks$History;", true)
  | 4 => ("SmokeRacks", "refusal", "LSmokeRacks$Refusal;", true)
  | 5 => ("SmokeRacks", "work", "LSmokeRacks$Work;", true)
  | 6 => ("SmokeRacks", "forecast", "LSmokeRacks$Forecast;", true)
  | 7 => ("SmokeRacks", "script", "LSmokeRacks$Script;", true)
  | 8 => ("SmokeRacks", "written", "LSmokeRacks$Line;", true)
  | _ => ("SmokeRacks", "hasSnapshot", "Z", false)
def tyX9 : Nat → FieldType := fun k => match k with
  | 0 => .object "SmokeRacks$House"
  | 1 => .object "SmokeRacks$House"
  | 2 => .object "SmokeRacks$House"
  | 3 => .object "SmokeRacks$History"
  | 4 => .object "SmokeRacks$Refusal"
  | 5 => .object "SmokeRacks$Work"
  | 6 => .object "SmokeRacks$Forecast"
  | 7 => .object "SmokeRacks$Script"
  | 8 => .object "SmokeRacks$Line"
  | _ => .boolean
abbrev wsX90 : List Cond := u_ws RX9 TX9 10
theorem nmX9 : ∀ a, a < 10 → ∀ b, b < 10 → a ≠ b → (TX9 a).2.1 ≠ (TX9 b).2.1 := by decide +kernel
theorem tyX9_ok : ∀ k, k < 10 → parseFieldDescriptor (TX9 k).2.2.1 = some (tyX9 k) := by decide +kernel
abbrev cX9_init : ByteArray := prog_1_method_1_code
def yX9_init : MethodName := ⟨RX9, "<init>", "()V"⟩
abbrev cX9_fish : ByteArray := prog_1_method_2_code
def yX9_fish : MethodName := ⟨RX9, "fish", "(I)I"⟩
abbrev cX9_brine : ByteArray := prog_1_method_3_code
def yX9_brine : MethodName := ⟨RX9, "brine", "(I)I"⟩
abbrev cX9_out : ByteArray := prog_1_method_4_code
def yX9_out : MethodName := ⟨RX9, "out", "(I)I"⟩
abbrev cX9_hang : ByteArray := prog_1_method_5_code
def yX9_hang : MethodName := ⟨RX9, "hang", "(III)I"⟩
abbrev cX9_turn : ByteArray := prog_1_method_6_code
def yX9_turn : MethodName := ⟨RX9, "turn", "(I)I"⟩
abbrev cX9_turnAll : ByteArray := prog_1_method_7_code
def yX9_turnAll : MethodName := ⟨RX9, "turnAll", "(I)I"⟩
abbrev cX9_logs : ByteArray := prog_1_method_8_code
def yX9_logs : MethodName := ⟨RX9, "logs", "(I)I"⟩
abbrev cX9_wood : ByteArray := prog_1_method_9_code
def yX9_wood : MethodName := ⟨RX9, "wood", "(I)I"⟩
abbrev cX9_day : ByteArray := prog_1_method_10_code
def yX9_day : MethodName := ⟨RX9, "day", "()I"⟩
abbrev cX9_hours : ByteArray := prog_1_method_11_code
def yX9_hours : MethodName := ⟨RX9, "hours", "(I)I"⟩
abbrev cX9_sell : ByteArray := prog_1_method_12_code
def yX9_sell : MethodName := ⟨RX9, "sell", "(I)I"⟩
abbrev cX9_throwAway : ByteArray := prog_1_method_13_code
def yX9_throwAway : MethodName := ⟨RX9, "throwAway", "(I)I"⟩
abbrev cX9_fishOf : ByteArray := prog_1_method_14_code
def yX9_fishOf : MethodName := ⟨RX9, "fishOf", "(II)I"⟩
abbrev cX9_sideOf : ByteArray := prog_1_method_15_code
def yX9_sideOf : MethodName := ⟨RX9, "sideOf", "(IIZ)I"⟩
abbrev cX9_at : ByteArray := prog_1_method_16_code
def yX9_at : MethodName := ⟨RX9, "at", "(II)I"⟩
abbrev cX9_heat : ByteArray := prog_1_method_17_code
def yX9_heat : MethodName := ⟨RX9, "heat", "(I)I"⟩
abbrev cX9_nearest : ByteArray := prog_1_method_18_code
def yX9_nearest : MethodName := ⟨RX9, "nearest", "(I)I"⟩
abbrev cX9_isCrowded : ByteArray := prog_1_method_19_code
def yX9_isCrowded : MethodName := ⟨RX9, "isCrowded", "(I)Z"⟩
abbrev cX9_isDone : ByteArray := prog_1_method_20_code
def yX9_isDone : MethodName := ⟨RX9, "isDone", "(I)Z"⟩
abbrev cX9_wouldChar : ByteArray := prog_1_method_21_code
def yX9_wouldChar : MethodName := ⟨RX9, "wouldChar", "(II)I"⟩
abbrev cX9_wouldCharAgain : ByteArray := prog_1_method_22_code
def yX9_wouldCharAgain : MethodName := ⟨RX9, "wouldCharAgain", "(II)I"⟩
abbrev cX9_burnsIn : ByteArray := prog_1_method_23_code
def yX9_burnsIn : MethodName := ⟨RX9, "burnsIn", "(I)I"⟩
abbrev cX9_doneIn : ByteArray := prog_1_method_24_code
def yX9_doneIn : MethodName := ⟨RX9, "doneIn", "(I)I"⟩
abbrev cX9_hottest : ByteArray := prog_1_method_25_code
def yX9_hottest : MethodName := ⟨RX9, "hottest", "()I"⟩
abbrev cX9_bestHook : ByteArray := prog_1_method_26_code
def yX9_bestHook : MethodName := ⟨RX9, "bestHook", "(II)I"⟩
abbrev cX9_crowded : ByteArray := prog_1_method_27_code
def yX9_crowded : MethodName := ⟨RX9, "crowded", "()I"⟩
abbrev cX9_ranked : ByteArray := prog_1_method_28_code
def yX9_ranked : MethodName := ⟨RX9, "ranked", "(II)I"⟩
abbrev cX9_append : ByteArray := prog_1_method_29_code
def yX9_append : MethodName := ⟨RX9, "append", "(C)I"⟩
abbrev cX9_commands : ByteArray := prog_1_method_30_code
def yX9_commands : MethodName := ⟨RX9, "commands", "()I"⟩
abbrev cX9_faultPosition : ByteArray := prog_1_method_31_code
def yX9_faultPosition : MethodName := ⟨RX9, "faultPosition", "()I"⟩
abbrev cX9_reason : ByteArray := prog_1_method_32_code
def yX9_reason : MethodName := ⟨RX9, "reason", "(I)I"⟩
abbrev cX9_rack : ByteArray := prog_1_method_33_code
def yX9_rack : MethodName := ⟨RX9, "rack", "(I)I"⟩
abbrev cX9_line : ByteArray := prog_1_method_34_code
def yX9_line : MethodName := ⟨RX9, "line", "(I)I"⟩
abbrev cX9_character : ByteArray := prog_1_method_35_code
def yX9_character : MethodName := ⟨RX9, "character", "(I)C"⟩
abbrev cX9_meanSmoke : ByteArray := prog_1_method_36_code
def yX9_meanSmoke : MethodName := ⟨RX9, "meanSmoke", "()I"⟩
abbrev cX9_burntShare : ByteArray := prog_1_method_37_code
def yX9_burntShare : MethodName := ⟨RX9, "burntShare", "()D"⟩
abbrev cX9_account : ByteArray := prog_1_method_38_code
def yX9_account : MethodName := ⟨RX9, "account", "(I)I"⟩
abbrev cX9_undo : ByteArray := prog_1_method_39_code
def yX9_undo : MethodName := ⟨RX9, "undo", "()I"⟩
abbrev cX9_save : ByteArray := prog_1_method_40_code
def yX9_save : MethodName := ⟨RX9, "save", "()I"⟩
abbrev cX9_restore : ByteArray := prog_1_method_41_code
def yX9_restore : MethodName := ⟨RX9, "restore", "()I"⟩
abbrev cX9_settled : ByteArray := prog_1_method_42_code
def yX9_settled : MethodName := ⟨RX9, "settled", "(I)I"⟩
abbrev cX9_needFish : ByteArray := prog_1_method_43_code
def yX9_needFish : MethodName := ⟨RX9, "needFish", "(I)V"⟩
abbrev cX9_needRack : ByteArray := prog_1_method_44_code
def yX9_needRack : MethodName := ⟨RX9, "needRack", "(I)V"⟩
abbrev cX9_needForecastHours : ByteArray := prog_1_method_45_code
def yX9_needForecastHours : MethodName := ⟨RX9, "needForecastHours", "(I)V"⟩
abbrev cX9_found : ByteArray := prog_1_method_46_code
def yX9_found : MethodName := ⟨RX9, "found", "(I)I"⟩
abbrev cX9_isRack : ByteArray := prog_1_method_47_code
def yX9_isRack : MethodName := ⟨RX9, "isRack", "(I)Z"⟩
abbrev cX9_isHook : ByteArray := prog_1_method_48_code
def yX9_isHook : MethodName := ⟨RX9, "isHook", "(I)Z"⟩
abbrev cX9_heatBy : ByteArray := prog_1_method_49_code
def yX9_heatBy : MethodName := ⟨RX9, "heatBy", "(II)I"⟩
abbrev cX9_bitsOf : ByteArray := prog_1_method_50_code
def yX9_bitsOf : MethodName := ⟨RX9, "bitsOf", "(F)I"⟩
def RX10 : String := "SmokeRacksModel"
def TX10 : u_T := fun k => match k with
  | 0 => ("SmokeRacksModel", "g", "[I", true)
  | 1 => ("SmokeRacksModel", "kept", "[I", true)
  | 2 => ("SmokeRacksModel", "stored", "[I", true)
  | 3 => ("SmokeRacksModel", "before", "[I", true)
  | 4 => ("SmokeRacksModel", "spare", "[I", true)
  | 5 => ("SmokeRacksModel", "isStored", "Z", false)
  | 6 => ("SmokeRacksModel", "changes", "I", false)
  | 7 => ("SmokeRacksModel", "isWithin", "Z", false)
  | 8 => ("SmokeRacksModel", "done", "I", false)
  | 9 => ("SmokeRacksModel", "code", "I", false)
  | 10 => ("SmokeRacksModel", "why", "I", false)
  | 11 => ("SmokeRacksModel", "detail", "I", false)
  | 12 => ("SmokeRacksModel", "index0", "I", false)
  | 13 => ("SmokeRacksModel", "input", "[I", true)
  | 14 => ("SmokeRacksModel", "length", "I", false)
  | 15 => ("SmokeRacksModel", "fault", "I", false)
  | 16 => ("SmokeRacksModel", "signs", "[C", true)
  | 17 => ("SmokeRacksModel", "signMany", "I", false)
  | 18 => ("SmokeRacksModel", "at0", "I", false)
  | 19 => ("SmokeRacksModel", "told", "[I", true)
  | _ => ("SmokeRacksModel", "toldMany", "I", false)
def tyX10 : Nat → FieldType := fun k => match k with
  | 0 => .array .int
  | 1 => .array .int
  | 2 => .array .int
  | 3 => .array .int
  | 4 => .array .int
  | 5 => .boolean
  | 6 => .int
  | 7 => .boolean
  | 8 => .int
  | 9 => .int
  | 10 => .int
  | 11 => .int
  | 12 => .int
  | 13 => .array .int
  | 14 => .int
  | 15 => .int
  | 16 => .array .char
  | 17 => .int
  | 18 => .int
  | 19 => .array .int
  | _ => .int
abbrev wsX100 : List Cond := u_ws RX10 TX10 21
theorem nmX10 : ∀ a, a < 21 → ∀ b, b < 21 → a ≠ b → (TX10 a).2.1 ≠ (TX10 b).2.1 := by decide +kernel
theorem tyX10_ok : ∀ k, k < 21 → parseFieldDescriptor (TX10 k).2.2.1 = some (tyX10 k) := by decide +kernel
abbrev cX10_init : ByteArray := prog_12_method_1_code
def yX10_init : MethodName := ⟨RX10, "<init>", "()V"⟩
abbrev cX10_thrown : ByteArray := prog_12_method_2_code
def yX10_thrown : MethodName := ⟨RX10, "thrown", "()I"⟩
abbrev cX10_fails : ByteArray := prog_12_method_3_code
def yX10_fails : MethodName := ⟨RX10, "fails", "(I)Z"⟩
abbrev cX10_refuses : ByteArray := prog_12_method_4_code
def yX10_refuses : MethodName := ⟨RX10, "refuses", "(II)I"⟩
abbrev cX10_in : ByteArray := prog_12_method_5_code
def yX10_in : MethodName := ⟨RX10, "in", "(III)Z"⟩
abbrev cX10_atMost : ByteArray := prog_12_method_6_code
def yX10_atMost : MethodName := ⟨RX10, "atMost", "(II)I"⟩
abbrev cX10_copies : ByteArray := prog_12_method_7_code
def yX10_copies : MethodName := ⟨RX10, "copies", "([II[II)V"⟩
abbrev cX10_keeps : ByteArray := prog_12_method_8_code
def yX10_keeps : MethodName := ⟨RX10, "keeps", "([I)V"⟩
abbrev cX10_of : ByteArray := prog_12_method_9_code
def yX10_of : MethodName := ⟨RX10, "of", "(II)I"⟩
abbrev cX10_lays : ByteArray := prog_12_method_10_code
def yX10_lays : MethodName := ⟨RX10, "lays", "(III)V"⟩
abbrev cX10_isFish : ByteArray := prog_12_method_11_code
def yX10_isFish : MethodName := ⟨RX10, "isFish", "(I)Z"⟩
abbrev cX10_many : ByteArray := prog_12_method_12_code
def yX10_many : MethodName := ⟨RX10, "many", "(I)I"⟩
abbrev cX10_hangs : ByteArray := prog_12_method_13_code
def yX10_hangs : MethodName := ⟨RX10, "hangs", "(I)Z"⟩
abbrev cX10_onRack : ByteArray := prog_12_method_14_code
def yX10_onRack : MethodName := ⟨RX10, "onRack", "(I)I"⟩
abbrev cX10_onHook : ByteArray := prog_12_method_15_code
def yX10_onHook : MethodName := ⟨RX10, "onHook", "(II)I"⟩
abbrev cX10_gap : ByteArray := prog_12_method_16_code
def yX10_gap : MethodName := ⟨RX10, "gap", "(II)I"⟩
abbrev cX10_far : ByteArray := prog_12_method_17_code
def yX10_far : MethodName := ⟨RX10, "far", "(III)I"⟩
abbrev cX10_needs : ByteArray := prog_12_method_18_code
def yX10_needs : MethodName := ⟨RX10, "needs", "(I)I"⟩
abbrev cX10_isNear : ByteArray := prog_12_method_19_code
def yX10_isNear : MethodName := ⟨RX10, "isNear", "(I)Z"⟩
abbrev cX10_bears : ByteArray := prog_12_method_20_code
def yX10_bears : MethodName := ⟨RX10, "bears", "(I)I"⟩
abbrev cX10_heatOf : ByteArray := prog_12_method_21_code
def yX10_heatOf : MethodName := ⟨RX10, "heatOf", "(I)I"⟩
abbrev cX10_isBurnt : ByteArray := prog_12_method_22_code
def yX10_isBurnt : MethodName := ⟨RX10, "isBurnt", "(I)Z"⟩
abbrev cX10_lacks : ByteArray := prog_12_method_23_code
def yX10_lacks : MethodName := ⟨RX10, "lacks", "(I)I"⟩
abbrev cX10_isReady : ByteArray := prog_12_method_24_code
def yX10_isReady : MethodName := ⟨RX10, "isReady", "(I)Z"⟩
abbrev cX10_price : ByteArray := prog_12_method_25_code
def yX10_price : MethodName := ⟨RX10, "price", "(I)I"⟩
abbrev cX10_burnt : ByteArray := prog_12_method_26_code
def yX10_burnt : MethodName := ⟨RX10, "burnt", "()I"⟩
abbrev cX10_smokes : ByteArray := prog_12_method_27_code
def yX10_smokes : MethodName := ⟨RX10, "smokes", "(I)V"⟩
abbrev cX10_hour : ByteArray := prog_12_method_28_code
def yX10_hour : MethodName := ⟨RX10, "hour", "()V"⟩
abbrev cX10_turns : ByteArray := prog_12_method_29_code
def yX10_turns : MethodName := ⟨RX10, "turns", "(I)V"⟩
abbrev cX10_fish : ByteArray := prog_12_method_30_code
def yX10_fish : MethodName := ⟨RX10, "fish", "(I)I"⟩
abbrev cX10_brine : ByteArray := prog_12_method_31_code
def yX10_brine : MethodName := ⟨RX10, "brine", "(I)I"⟩
abbrev cX10_out : ByteArray := prog_12_method_32_code
def yX10_out : MethodName := ⟨RX10, "out", "(I)I"⟩
abbrev cX10_isHook : ByteArray := prog_12_method_33_code
def yX10_isHook : MethodName := ⟨RX10, "isHook", "(II)Z"⟩
abbrev cX10_hang : ByteArray := prog_12_method_34_code
def yX10_hang : MethodName := ⟨RX10, "hang", "(III)I"⟩
abbrev cX10_turn : ByteArray := prog_12_method_35_code
def yX10_turn : MethodName := ⟨RX10, "turn", "(I)I"⟩
abbrev cX10_turnAll : ByteArray := prog_12_method_36_code
def yX10_turnAll : MethodName := ⟨RX10, "turnAll", "(I)I"⟩
abbrev cX10_logs : ByteArray := prog_12_method_37_code
def yX10_logs : MethodName := ⟨RX10, "logs", "(I)I"⟩
abbrev cX10_wood : ByteArray := prog_12_method_38_code
def yX10_wood : MethodName := ⟨RX10, "wood", "(I)I"⟩
abbrev cX10_day : ByteArray := prog_12_method_39_code
def yX10_day : MethodName := ⟨RX10, "day", "()I"⟩
abbrev cX10_hours : ByteArray := prog_12_method_40_code
def yX10_hours : MethodName := ⟨RX10, "hours", "(I)I"⟩
abbrev cX10_goes : ByteArray := prog_12_method_41_code
def yX10_goes : MethodName := ⟨RX10, "goes", "(I)V"⟩
abbrev cX10_sell : ByteArray := prog_12_method_42_code
def yX10_sell : MethodName := ⟨RX10, "sell", "(I)I"⟩
abbrev cX10_throwAway : ByteArray := prog_12_method_43_code
def yX10_throwAway : MethodName := ⟨RX10, "throwAway", "(I)I"⟩
abbrev cX10_fishOf : ByteArray := prog_12_method_44_code
def yX10_fishOf : MethodName := ⟨RX10, "fishOf", "(II)I"⟩
abbrev cX10_sideOf : ByteArray := prog_12_method_45_code
def yX10_sideOf : MethodName := ⟨RX10, "sideOf", "(IIZ)I"⟩
abbrev cX10_at : ByteArray := prog_12_method_46_code
def yX10_at : MethodName := ⟨RX10, "at", "(II)I"⟩
abbrev cX10_heat : ByteArray := prog_12_method_47_code
def yX10_heat : MethodName := ⟨RX10, "heat", "(I)I"⟩
abbrev cX10_nearest : ByteArray := prog_12_method_48_code
def yX10_nearest : MethodName := ⟨RX10, "nearest", "(I)I"⟩
abbrev cX10_isCrowded : ByteArray := prog_12_method_49_code
def yX10_isCrowded : MethodName := ⟨RX10, "isCrowded", "(I)Z"⟩
abbrev cX10_isDone : ByteArray := prog_12_method_50_code
def yX10_isDone : MethodName := ⟨RX10, "isDone", "(I)Z"⟩
abbrev cX10_wouldChar : ByteArray := prog_12_method_51_code
def yX10_wouldChar : MethodName := ⟨RX10, "wouldChar", "(II)I"⟩
abbrev cX10_wouldCharAgain : ByteArray := prog_12_method_52_code
def yX10_wouldCharAgain : MethodName := ⟨RX10, "wouldCharAgain", "(II)I"⟩
abbrev cX10_burns : ByteArray := prog_12_method_53_code
def yX10_burns : MethodName := ⟨RX10, "burns", "(I)I"⟩
abbrev cX10_burnsIn : ByteArray := prog_12_method_54_code
def yX10_burnsIn : MethodName := ⟨RX10, "burnsIn", "(I)I"⟩
abbrev cX10_doneIn : ByteArray := prog_12_method_55_code
def yX10_doneIn : MethodName := ⟨RX10, "doneIn", "(I)I"⟩
abbrev cX10_hottest : ByteArray := prog_12_method_56_code
def yX10_hottest : MethodName := ⟨RX10, "hottest", "()I"⟩
abbrev cX10_bestHook : ByteArray := prog_12_method_57_code
def yX10_bestHook : MethodName := ⟨RX10, "bestHook", "(II)I"⟩
abbrev cX10_crowded : ByteArray := prog_12_method_58_code
def yX10_crowded : MethodName := ⟨RX10, "crowded", "()I"⟩
abbrev cX10_measured : ByteArray := prog_12_method_59_code
def yX10_measured : MethodName := ⟨RX10, "measured", "(II)I"⟩
abbrev cX10_ranked : ByteArray := prog_12_method_60_code
def yX10_ranked : MethodName := ⟨RX10, "ranked", "(II)I"⟩
abbrev cX10_append : ByteArray := prog_12_method_61_code
def yX10_append : MethodName := ⟨RX10, "append", "(C)I"⟩
abbrev cX10_here : ByteArray := prog_12_method_62_code
def yX10_here : MethodName := ⟨RX10, "here", "()I"⟩
abbrev cX10_skips : ByteArray := prog_12_method_63_code
def yX10_skips : MethodName := ⟨RX10, "skips", "(I)Z"⟩
abbrev cX10_figures : ByteArray := prog_12_method_64_code
def yX10_figures : MethodName := ⟨RX10, "figures", "(II)Z"⟩
abbrev cX10_hasTwo : ByteArray := prog_12_method_65_code
def yX10_hasTwo : MethodName := ⟨RX10, "hasTwo", "()Z"⟩
abbrev cX10_commandHere : ByteArray := prog_12_method_66_code
def yX10_commandHere : MethodName := ⟨RX10, "commandHere", "()Z"⟩
abbrev cX10_isText : ByteArray := prog_12_method_67_code
def yX10_isText : MethodName := ⟨RX10, "isText", "()Z"⟩
abbrev cX10_carries : ByteArray := prog_12_method_68_code
def yX10_carries : MethodName := ⟨RX10, "carries", "(I)I"⟩
abbrev cX10_commands : ByteArray := prog_12_method_69_code
def yX10_commands : MethodName := ⟨RX10, "commands", "()I"⟩
abbrev cX10_faultPosition : ByteArray := prog_12_method_70_code
def yX10_faultPosition : MethodName := ⟨RX10, "faultPosition", "()I"⟩
abbrev cX10_reason : ByteArray := prog_12_method_71_code
def yX10_reason : MethodName := ⟨RX10, "reason", "(I)I"⟩
abbrev cX10_writes : ByteArray := prog_12_method_72_code
def yX10_writes : MethodName := ⟨RX10, "writes", "(I)V"⟩
abbrev cX10_writesNumber : ByteArray := prog_12_method_73_code
def yX10_writesNumber : MethodName := ⟨RX10, "writesNumber", "(I)V"⟩
abbrev cX10_rack : ByteArray := prog_12_method_74_code
def yX10_rack : MethodName := ⟨RX10, "rack", "(I)I"⟩
abbrev cX10_line : ByteArray := prog_12_method_75_code
def yX10_line : MethodName := ⟨RX10, "line", "(I)I"⟩
abbrev cX10_character : ByteArray := prog_12_method_76_code
def yX10_character : MethodName := ⟨RX10, "character", "(I)C"⟩
abbrev cX10_meanSmoke : ByteArray := prog_12_method_77_code
def yX10_meanSmoke : MethodName := ⟨RX10, "meanSmoke", "()I"⟩
abbrev cX10_burntShare : ByteArray := prog_12_method_78_code
def yX10_burntShare : MethodName := ⟨RX10, "burntShare", "()D"⟩
abbrev cX10_account : ByteArray := prog_12_method_79_code
def yX10_account : MethodName := ⟨RX10, "account", "(I)I"⟩
abbrev cX10_undo : ByteArray := prog_12_method_80_code
def yX10_undo : MethodName := ⟨RX10, "undo", "()I"⟩
abbrev cX10_save : ByteArray := prog_12_method_81_code
def yX10_save : MethodName := ⟨RX10, "save", "()I"⟩
abbrev cX10_restore : ByteArray := prog_12_method_82_code
def yX10_restore : MethodName := ⟨RX10, "restore", "()I"⟩
def RJx145de : String := "java/io/Serializable"
def TJx145de : u_T := fun k => match k with
  | _ => ("", "", "", false)
def tyJx145de : Nat → FieldType := fun k => match k with
  | _ => .int
theorem tyJx145de_ok : ∀ k, k < 0 → parseFieldDescriptor (TJx145de k).2.2.1 = some (tyJx145de k) := by decide +kernel
def RJx00060 : String := "java/lang/ArrayIndexOutOfBoundsException"
def TJx00060 : u_T := fun k => match k with
  | 0 => ("java/lang/Throwable", "backtrace", "Ljava/lang/Object;", false)
  | 1 => ("java/lang/Throwable", "detailMessage", "Ljava/lang/String;", false)
  | 2 => ("java/lang/Throwable", "cause", "Ljava/lang/Throwable;", false)
  | 3 => ("java/lang/Throwable", "stackTrace", "[Ljava/lang/StackTraceElement;", false)
  | 4 => ("java/lang/Throwable", "depth", "I", false)
  | _ => ("java/lang/Throwable", "suppressedExceptions", "Ljava/util/List;", false)
def tyJx00060 : Nat → FieldType := fun k => match k with
  | 0 => .object "java/lang/Object"
  | 1 => .object "java/lang/String"
  | 2 => .object "java/lang/Throwable"
  | 3 => .array (.object "java/lang/StackTraceElement")
  | 4 => .int
  | _ => .object "java/util/List"
theorem tyJx00060_ok : ∀ k, k < 6 → parseFieldDescriptor (TJx00060 k).2.2.1 = some (tyJx00060 k) := by decide +kernel
def RJxb160c : String := "java/lang/Comparable"
def TJxb160c : u_T := fun k => match k with
  | _ => ("", "", "", false)
def tyJxb160c : Nat → FieldType := fun k => match k with
  | _ => .int
theorem tyJxb160c_ok : ∀ k, k < 0 → parseFieldDescriptor (TJxb160c k).2.2.1 = some (tyJxb160c k) := by decide +kernel
def RJxf58ca : String := "java/lang/Float"
def TJxf58ca : u_T := fun k => match k with
  | _ => ("", "", "", false)
def tyJxf58ca : Nat → FieldType := fun k => match k with
  | _ => .int
theorem tyJxf58ca_ok : ∀ k, k < 0 → parseFieldDescriptor (TJxf58ca k).2.2.1 = some (tyJxf58ca k) := by decide +kernel
def RJ9 : String := "java/lang/Math"
def TJ9 : u_T := fun k => match k with
  | _ => ("", "", "", false)
def tyJ9 : Nat → FieldType := fun k => match k with
  | _ => .int
theorem tyJ9_ok : ∀ k, k < 0 → parseFieldDescriptor (TJ9 k).2.2.1 = some (tyJ9 k) := by decide +kernel
def RJxd2413 : String := "java/lang/Number"
def TJxd2413 : u_T := fun k => match k with
  | _ => ("", "", "", false)
def tyJxd2413 : Nat → FieldType := fun k => match k with
  | _ => .int
theorem tyJxd2413_ok : ∀ k, k < 0 → parseFieldDescriptor (TJxd2413 k).2.2.1 = some (tyJxd2413 k) := by decide +kernel
def RJ0 : String := "java/lang/String"
def TJ0 : u_T := fun k => match k with
  | 0 => ("java/lang/String", "value", "[B", true)
  | _ => ("java/lang/String", "coder", "B", true)
def tyJ0 : Nat → FieldType := fun k => match k with
  | 0 => .array .byte
  | _ => .byte
theorem tyJ0_ok : ∀ k, k < 2 → parseFieldDescriptor (TJ0 k).2.2.1 = some (tyJ0 k) := by decide +kernel
def RJxfd54e : String := "java/lang/constant/Constable"
def TJxfd54e : u_T := fun k => match k with
  | _ => ("", "", "", false)
def tyJxfd54e : Nat → FieldType := fun k => match k with
  | _ => .int
theorem tyJxfd54e_ok : ∀ k, k < 0 → parseFieldDescriptor (TJxfd54e k).2.2.1 = some (tyJxfd54e k) := by decide +kernel
def RJx3cf43 : String := "java/lang/constant/ConstantDesc"
def TJx3cf43 : u_T := fun k => match k with
  | _ => ("", "", "", false)
def tyJx3cf43 : Nat → FieldType := fun k => match k with
  | _ => .int
theorem tyJx3cf43_ok : ∀ k, k < 0 → parseFieldDescriptor (TJx3cf43 k).2.2.1 = some (tyJx3cf43 k) := by decide +kernel
def RL : String := "SmokeRacksLaw"
abbrev cL_fish : ByteArray := method_3_code
def yL_fish : MethodName := ⟨RL, "fish", "(LSmokeRacks;I[J)I"⟩
abbrev cL_brine : ByteArray := method_4_code
def yL_brine : MethodName := ⟨RL, "brine", "(LSmokeRacks;I[J)I"⟩
abbrev cL_out : ByteArray := method_5_code
def yL_out : MethodName := ⟨RL, "out", "(LSmokeRacks;I[J)I"⟩
abbrev cL_hang : ByteArray := method_6_code
def yL_hang : MethodName := ⟨RL, "hang", "(LSmokeRacks;III[J)I"⟩
abbrev cL_turn : ByteArray := method_7_code
def yL_turn : MethodName := ⟨RL, "turn", "(LSmokeRacks;I[J)I"⟩
abbrev cL_turnAll : ByteArray := method_8_code
def yL_turnAll : MethodName := ⟨RL, "turnAll", "(LSmokeRacks;I[J)I"⟩
abbrev cL_logs : ByteArray := method_9_code
def yL_logs : MethodName := ⟨RL, "logs", "(LSmokeRacks;I[J)I"⟩
abbrev cL_wood : ByteArray := method_10_code
def yL_wood : MethodName := ⟨RL, "wood", "(LSmokeRacks;I[J)I"⟩
abbrev cL_day : ByteArray := method_11_code
def yL_day : MethodName := ⟨RL, "day", "(LSmokeRacks;[J)I"⟩
abbrev cL_hours : ByteArray := method_12_code
def yL_hours : MethodName := ⟨RL, "hours", "(LSmokeRacks;I[J)I"⟩
abbrev cL_sell : ByteArray := method_13_code
def yL_sell : MethodName := ⟨RL, "sell", "(LSmokeRacks;I[J)I"⟩
abbrev cL_throwAway : ByteArray := method_14_code
def yL_throwAway : MethodName := ⟨RL, "throwAway", "(LSmokeRacks;I[J)I"⟩
abbrev cL_fishOf : ByteArray := method_15_code
def yL_fishOf : MethodName := ⟨RL, "fishOf", "(LSmokeRacks;II[J)I"⟩
abbrev cL_sideOf : ByteArray := method_16_code
def yL_sideOf : MethodName := ⟨RL, "sideOf", "(LSmokeRacks;IIZ[J)I"⟩
abbrev cL_at : ByteArray := method_17_code
def yL_at : MethodName := ⟨RL, "at", "(LSmokeRacks;II[J)I"⟩
abbrev cL_heat : ByteArray := method_18_code
def yL_heat : MethodName := ⟨RL, "heat", "(LSmokeRacks;I[J)I"⟩
abbrev cL_nearest : ByteArray := method_19_code
def yL_nearest : MethodName := ⟨RL, "nearest", "(LSmokeRacks;I[J)I"⟩
abbrev cL_isCrowded : ByteArray := method_20_code
def yL_isCrowded : MethodName := ⟨RL, "isCrowded", "(LSmokeRacks;I[J)I"⟩
abbrev cL_isDone : ByteArray := method_21_code
def yL_isDone : MethodName := ⟨RL, "isDone", "(LSmokeRacks;I[J)I"⟩
abbrev cL_wouldChar : ByteArray := method_22_code
def yL_wouldChar : MethodName := ⟨RL, "wouldChar", "(LSmokeRacks;II[J)I"⟩
abbrev cL_wouldCharAgain : ByteArray := method_23_code
def yL_wouldCharAgain : MethodName := ⟨RL, "wouldCharAgain", "(LSmokeRacks;II[J)I"⟩
abbrev cL_burnsIn : ByteArray := method_24_code
def yL_burnsIn : MethodName := ⟨RL, "burnsIn", "(LSmokeRacks;I[J)I"⟩
abbrev cL_doneIn : ByteArray := method_25_code
def yL_doneIn : MethodName := ⟨RL, "doneIn", "(LSmokeRacks;I[J)I"⟩
abbrev cL_hottest : ByteArray := method_26_code
def yL_hottest : MethodName := ⟨RL, "hottest", "(LSmokeRacks;[J)I"⟩
abbrev cL_bestHook : ByteArray := method_27_code
def yL_bestHook : MethodName := ⟨RL, "bestHook", "(LSmokeRacks;II[J)I"⟩
abbrev cL_ranked : ByteArray := method_28_code
def yL_ranked : MethodName := ⟨RL, "ranked", "(LSmokeRacks;II[J)I"⟩
abbrev cL_append : ByteArray := method_29_code
def yL_append : MethodName := ⟨RL, "append", "(LSmokeRacks;C[J)I"⟩
abbrev cL_commands : ByteArray := method_30_code
def yL_commands : MethodName := ⟨RL, "commands", "(LSmokeRacks;[J)I"⟩
abbrev cL_reason : ByteArray := method_31_code
def yL_reason : MethodName := ⟨RL, "reason", "(LSmokeRacks;I[J)I"⟩
abbrev cL_rack : ByteArray := method_32_code
def yL_rack : MethodName := ⟨RL, "rack", "(LSmokeRacks;I[J)I"⟩
abbrev cL_line : ByteArray := method_33_code
def yL_line : MethodName := ⟨RL, "line", "(LSmokeRacks;I[J)I"⟩
abbrev cL_character : ByteArray := method_34_code
def yL_character : MethodName := ⟨RL, "character", "(LSmokeRacks;I[J)I"⟩
abbrev cL_meanSmoke : ByteArray := method_35_code
def yL_meanSmoke : MethodName := ⟨RL, "meanSmoke", "(LSmokeRacks;[J)I"⟩
abbrev cL_burntShare : ByteArray := method_36_code
def yL_burntShare : MethodName := ⟨RL, "burntShare", "(LSmokeRacks;[D)I"⟩
abbrev cL_account : ByteArray := method_37_code
def yL_account : MethodName := ⟨RL, "account", "(LSmokeRacks;I[J)I"⟩
abbrev cL_undo : ByteArray := method_38_code
def yL_undo : MethodName := ⟨RL, "undo", "(LSmokeRacks;[J)I"⟩
abbrev cL_restore : ByteArray := method_39_code
def yL_restore : MethodName := ⟨RL, "restore", "(LSmokeRacks;[J)I"⟩
abbrev cL_law : ByteArray := code
def yL_law : MethodName := ⟨RL, "law", "([I)Z"⟩
abbrev vwCl : List vw_C := [(RJ0, TJ0, 2), (RJx00060, TJx00060, 6), (RX0, TX0, 9), (RX1, TX1, 2), (RX2, TX2, 2), (RX3, TX3, 10), (RX4, TX4, 2), (RX5, TX5, 5), (RX6, TX6, 9), (RX7, TX7, 2), (RX8, TX8, 2), (RX9, TX9, 10), (RX10, TX10, 21)]
end
section
theorem dX0_init_0 : decode cX0_init 0 = .ok (.aload_n 0, 1) := by decide +kernel
theorem dX0_init_1 : decode cX0_init 1 = .ok (.invokespecial 3, 3) := by decide +kernel
theorem dX0_init_4 : decode cX0_init 4 = .ok (.aload_n 0, 1) := by decide +kernel
theorem dX0_init_5 : decode cX0_init 5 = .ok (.new 9, 3) := by decide +kernel
theorem dX0_init_8 : decode cX0_init 8 = .ok (.dup, 1) := by decide +kernel
theorem dX0_init_9 : decode cX0_init 9 = .ok (.invokespecial 11, 3) := by decide +kernel
theorem dX0_init_12 : decode cX0_init 12 = .ok (.putfield 12, 3) := by decide +kernel
theorem dX0_init_15 : decode cX0_init 15 = .ok (.aload_n 0, 1) := by decide +kernel
theorem dX0_init_16 : decode cX0_init 16 = .ok (.new 9, 3) := by decide +kernel
theorem dX0_init_19 : decode cX0_init 19 = .ok (.dup, 1) := by decide +kernel
theorem dX0_init_20 : decode cX0_init 20 = .ok (.invokespecial 11, 3) := by decide +kernel
theorem dX0_init_23 : decode cX0_init 23 = .ok (.putfield 18, 3) := by decide +kernel
theorem dX0_init_26 : decode cX0_init 26 = .ok (.return_, 1) := by decide +kernel
theorem dX0_copyFrom_0 : decode cX0_copyFrom 0 = .ok (.aload_n 0, 1) := by decide +kernel
theorem dX0_copyFrom_1 : decode cX0_copyFrom 1 = .ok (.getfield 12, 3) := by decide +kernel
theorem dX0_copyFrom_4 : decode cX0_copyFrom 4 = .ok (.aload_n 1, 1) := by decide +kernel
theorem dX0_copyFrom_5 : decode cX0_copyFrom 5 = .ok (.getfield 12, 3) := by decide +kernel
theorem dX0_copyFrom_8 : decode cX0_copyFrom 8 = .ok (.invokevirtual 21, 3) := by decide +kernel
theorem dX0_copyFrom_11 : decode cX0_copyFrom 11 = .ok (.aload_n 0, 1) := by decide +kernel
theorem dX0_copyFrom_12 : decode cX0_copyFrom 12 = .ok (.getfield 18, 3) := by decide +kernel
theorem dX0_copyFrom_15 : decode cX0_copyFrom 15 = .ok (.aload_n 1, 1) := by decide +kernel
theorem dX0_copyFrom_16 : decode cX0_copyFrom 16 = .ok (.getfield 18, 3) := by decide +kernel
theorem dX0_copyFrom_19 : decode cX0_copyFrom 19 = .ok (.invokevirtual 21, 3) := by decide +kernel
theorem dX0_copyFrom_22 : decode cX0_copyFrom 22 = .ok (.aload_n 0, 1) := by decide +kernel
theorem dX0_copyFrom_23 : decode cX0_copyFrom 23 = .ok (.aload_n 1, 1) := by decide +kernel
theorem dX0_copyFrom_24 : decode cX0_copyFrom 24 = .ok (.getfield 25, 3) := by decide +kernel
theorem dX0_copyFrom_27 : decode cX0_copyFrom 27 = .ok (.putfield 25, 3) := by decide +kernel
theorem dX0_copyFrom_30 : decode cX0_copyFrom 30 = .ok (.aload_n 0, 1) := by decide +kernel
theorem dX0_copyFrom_31 : decode cX0_copyFrom 31 = .ok (.aload_n 1, 1) := by decide +kernel
theorem dX0_copyFrom_32 : decode cX0_copyFrom 32 = .ok (.getfield 29, 3) := by decide +kernel
theorem dX0_copyFrom_35 : decode cX0_copyFrom 35 = .ok (.putfield 29, 3) := by decide +kernel
theorem dX0_copyFrom_38 : decode cX0_copyFrom 38 = .ok (.aload_n 0, 1) := by decide +kernel
theorem dX0_copyFrom_39 : decode cX0_copyFrom 39 = .ok (.aload_n 1, 1) := by decide +kernel
theorem dX0_copyFrom_40 : decode cX0_copyFrom 40 = .ok (.getfield 32, 3) := by decide +kernel
theorem dX0_copyFrom_43 : decode cX0_copyFrom 43 = .ok (.putfield 32, 3) := by decide +kernel
theorem dX0_copyFrom_46 : decode cX0_copyFrom 46 = .ok (.aload_n 0, 1) := by decide +kernel
theorem dX0_copyFrom_47 : decode cX0_copyFrom 47 = .ok (.aload_n 1, 1) := by decide +kernel
theorem dX0_copyFrom_48 : decode cX0_copyFrom 48 = .ok (.getfield 35, 3) := by decide +kernel
theorem dX0_copyFrom_51 : decode cX0_copyFrom 51 = .ok (.putfield 35, 3) := by decide +kernel
theorem dX0_copyFrom_54 : decode cX0_copyFrom 54 = .ok (.aload_n 0, 1) := by decide +kernel
theorem dX0_copyFrom_55 : decode cX0_copyFrom 55 = .ok (.aload_n 1, 1) := by decide +kernel
theorem dX0_copyFrom_56 : decode cX0_copyFrom 56 = .ok (.getfield 38, 3) := by decide +kernel
theorem dX0_copyFrom_59 : decode cX0_copyFrom 59 = .ok (.putfield 38, 3) := by decide +kernel
theorem dX0_copyFrom_62 : decode cX0_copyFrom 62 = .ok (.aload_n 0, 1) := by decide +kernel
theorem dX0_copyFrom_63 : decode cX0_copyFrom 63 = .ok (.aload_n 1, 1) := by decide +kernel
theorem dX0_copyFrom_64 : decode cX0_copyFrom 64 = .ok (.getfield 41, 3) := by decide +kernel
theorem dX0_copyFrom_67 : decode cX0_copyFrom 67 = .ok (.putfield 41, 3) := by decide +kernel
theorem dX0_copyFrom_70 : decode cX0_copyFrom 70 = .ok (.aload_n 0, 1) := by decide +kernel
theorem dX0_copyFrom_71 : decode cX0_copyFrom 71 = .ok (.aload_n 1, 1) := by decide +kernel
theorem dX0_copyFrom_72 : decode cX0_copyFrom 72 = .ok (.getfield 44, 3) := by decide +kernel
theorem dX0_copyFrom_75 : decode cX0_copyFrom 75 = .ok (.putfield 44, 3) := by decide +kernel
theorem dX0_copyFrom_78 : decode cX0_copyFrom 78 = .ok (.return_, 1) := by decide +kernel
theorem dX0_begin_0 : decode cX0_begin 0 = .ok (.aload_n 0, 1) := by decide +kernel
theorem dX0_begin_1 : decode cX0_begin 1 = .ok (.getfield 12, 3) := by decide +kernel
theorem dX0_begin_4 : decode cX0_begin 4 = .ok (.invokevirtual 48, 3) := by decide +kernel
theorem dX0_begin_7 : decode cX0_begin 7 = .ok (.aload_n 0, 1) := by decide +kernel
theorem dX0_begin_8 : decode cX0_begin 8 = .ok (.getfield 18, 3) := by decide +kernel
theorem dX0_begin_11 : decode cX0_begin 11 = .ok (.invokevirtual 48, 3) := by decide +kernel
theorem dX0_begin_14 : decode cX0_begin 14 = .ok (.aload_n 0, 1) := by decide +kernel
theorem dX0_begin_15 : decode cX0_begin 15 = .ok (.iload_n 1, 1) := by decide +kernel
theorem dX0_begin_16 : decode cX0_begin 16 = .ok (.putfield 25, 3) := by decide +kernel
theorem dX0_begin_19 : decode cX0_begin 19 = .ok (.aload_n 0, 1) := by decide +kernel
theorem dX0_begin_20 : decode cX0_begin 20 = .ok (.iconst 0, 1) := by decide +kernel
theorem dX0_begin_21 : decode cX0_begin 21 = .ok (.putfield 29, 3) := by decide +kernel
theorem dX0_begin_24 : decode cX0_begin 24 = .ok (.aload_n 0, 1) := by decide +kernel
theorem dX0_begin_25 : decode cX0_begin 25 = .ok (.iconst 0, 1) := by decide +kernel
theorem dX0_begin_26 : decode cX0_begin 26 = .ok (.putfield 41, 3) := by decide +kernel
theorem dX0_begin_29 : decode cX0_begin 29 = .ok (.aload_n 0, 1) := by decide +kernel
theorem dX0_begin_30 : decode cX0_begin 30 = .ok (.iconst 0, 1) := by decide +kernel
theorem dX0_begin_31 : decode cX0_begin 31 = .ok (.iconst (-1), 1) := by decide +kernel
theorem dX0_begin_32 : decode cX0_begin 32 = .ok (.iconst (-1), 1) := by decide +kernel
theorem dX0_begin_33 : decode cX0_begin 33 = .ok (.invokevirtual 51, 3) := by decide +kernel
theorem dX0_begin_36 : decode cX0_begin 36 = .ok (.return_, 1) := by decide +kernel
theorem dX0_moveTo_0 : decode cX0_moveTo 0 = .ok (.aload_n 0, 1) := by decide +kernel
theorem dX0_moveTo_1 : decode cX0_moveTo 1 = .ok (.iload_n 1, 1) := by decide +kernel
theorem dX0_moveTo_2 : decode cX0_moveTo 2 = .ok (.putfield 32, 3) := by decide +kernel
theorem dX0_moveTo_5 : decode cX0_moveTo 5 = .ok (.aload_n 0, 1) := by decide +kernel
theorem dX0_moveTo_6 : decode cX0_moveTo 6 = .ok (.iload_n 2, 1) := by decide +kernel
theorem dX0_moveTo_7 : decode cX0_moveTo 7 = .ok (.putfield 35, 3) := by decide +kernel
theorem dX0_moveTo_10 : decode cX0_moveTo 10 = .ok (.aload_n 0, 1) := by decide +kernel
theorem dX0_moveTo_11 : decode cX0_moveTo 11 = .ok (.iload_n 3, 1) := by decide +kernel
theorem dX0_moveTo_12 : decode cX0_moveTo 12 = .ok (.putfield 38, 3) := by decide +kernel
theorem dX0_moveTo_15 : decode cX0_moveTo 15 = .ok (.aload_n 0, 1) := by decide +kernel
theorem dX0_moveTo_16 : decode cX0_moveTo 16 = .ok (.iconst 0, 1) := by decide +kernel
theorem dX0_moveTo_17 : decode cX0_moveTo 17 = .ok (.putfield 44, 3) := by decide +kernel
theorem dX0_moveTo_20 : decode cX0_moveTo 20 = .ok (.return_, 1) := by decide +kernel
theorem dX0_flip_0 : decode cX0_flip 0 = .ok (.aload_n 0, 1) := by decide +kernel
theorem dX0_flip_1 : decode cX0_flip 1 = .ok (.iconst 1, 1) := by decide +kernel
theorem dX0_flip_2 : decode cX0_flip 2 = .ok (.aload_n 0, 1) := by decide +kernel
theorem dX0_flip_3 : decode cX0_flip 3 = .ok (.getfield 41, 3) := by decide +kernel
theorem dX0_flip_6 : decode cX0_flip 6 = .ok (.isub, 1) := by decide +kernel
theorem dX0_flip_7 : decode cX0_flip 7 = .ok (.putfield 41, 3) := by decide +kernel
theorem dX0_flip_10 : decode cX0_flip 10 = .ok (.aload_n 0, 1) := by decide +kernel
theorem dX0_flip_11 : decode cX0_flip 11 = .ok (.iconst 1, 1) := by decide +kernel
theorem dX0_flip_12 : decode cX0_flip 12 = .ok (.putfield 44, 3) := by decide +kernel
theorem dX0_flip_15 : decode cX0_flip 15 = .ok (.return_, 1) := by decide +kernel
theorem dX0_addSalt_0 : decode cX0_addSalt 0 = .ok (.aload_n 0, 1) := by decide +kernel
theorem dX0_addSalt_1 : decode cX0_addSalt 1 = .ok (.bipush 9, 2) := by decide +kernel
theorem dX0_addSalt_3 : decode cX0_addSalt 3 = .ok (.aload_n 0, 1) := by decide +kernel
theorem dX0_addSalt_4 : decode cX0_addSalt 4 = .ok (.getfield 29, 3) := by decide +kernel
theorem dX0_addSalt_7 : decode cX0_addSalt 7 = .ok (.iload_n 1, 1) := by decide +kernel
theorem dX0_addSalt_8 : decode cX0_addSalt 8 = .ok (.iadd, 1) := by decide +kernel
theorem dX0_addSalt_9 : decode cX0_addSalt 9 = .ok (.invokestatic 55, 3) := by decide +kernel
theorem dX0_addSalt_12 : decode cX0_addSalt 12 = .ok (.putfield 29, 3) := by decide +kernel
theorem dX0_addSalt_15 : decode cX0_addSalt 15 = .ok (.return_, 1) := by decide +kernel
theorem dX0_spendHour_0 : decode cX0_spendHour 0 = .ok (.aload_n 0, 1) := by decide +kernel
theorem dX0_spendHour_1 : decode cX0_spendHour 1 = .ok (.aload_n 0, 1) := by decide +kernel
theorem dX0_spendHour_2 : decode cX0_spendHour 2 = .ok (.getfield 41, 3) := by decide +kernel
theorem dX0_spendHour_5 : decode cX0_spendHour 5 = .ok (.invokevirtual 61, 3) := by decide +kernel
theorem dX0_spendHour_8 : decode cX0_spendHour 8 = .ok (.astore_n 3, 1) := by decide +kernel
theorem dX0_spendHour_9 : decode cX0_spendHour 9 = .ok (.aload_n 3, 1) := by decide +kernel
theorem dX0_spendHour_10 : decode cX0_spendHour 10 = .ok (.iload_n 2, 1) := by decide +kernel
theorem dX0_spendHour_11 : decode cX0_spendHour 11 = .ok (.invokevirtual 65, 3) := by decide +kernel
theorem dX0_spendHour_14 : decode cX0_spendHour 14 = .ok (.aload_n 0, 1) := by decide +kernel
theorem dX0_spendHour_15 : decode cX0_spendHour 15 = .ok (.getfield 44, 3) := by decide +kernel
theorem dX0_spendHour_18 : decode cX0_spendHour 18 = .ok (.ifCond .ne 21, 3) := by decide +kernel
theorem dX0_spendHour_21 : decode cX0_spendHour 21 = .ok (.iload_n 1, 1) := by decide +kernel
theorem dX0_spendHour_22 : decode cX0_spendHour 22 = .ok (.aload_n 0, 1) := by decide +kernel
theorem dX0_spendHour_23 : decode cX0_spendHour 23 = .ok (.invokevirtual 69, 3) := by decide +kernel
theorem dX0_spendHour_26 : decode cX0_spendHour 26 = .ok (.if_icmp .le 13, 3) := by decide +kernel
theorem dX0_spendHour_29 : decode cX0_spendHour 29 = .ok (.aload_n 3, 1) := by decide +kernel
theorem dX0_spendHour_30 : decode cX0_spendHour 30 = .ok (.iload_n 1, 1) := by decide +kernel
theorem dX0_spendHour_31 : decode cX0_spendHour 31 = .ok (.aload_n 0, 1) := by decide +kernel
theorem dX0_spendHour_32 : decode cX0_spendHour 32 = .ok (.invokevirtual 69, 3) := by decide +kernel
theorem dX0_spendHour_35 : decode cX0_spendHour 35 = .ok (.isub, 1) := by decide +kernel
theorem dX0_spendHour_36 : decode cX0_spendHour 36 = .ok (.invokevirtual 73, 3) := by decide +kernel
theorem dX0_spendHour_39 : decode cX0_spendHour 39 = .ok (.aload_n 0, 1) := by decide +kernel
theorem dX0_spendHour_40 : decode cX0_spendHour 40 = .ok (.iconst 0, 1) := by decide +kernel
theorem dX0_spendHour_41 : decode cX0_spendHour 41 = .ok (.putfield 44, 3) := by decide +kernel
theorem dX0_spendHour_44 : decode cX0_spendHour 44 = .ok (.return_, 1) := by decide +kernel
theorem dX0_side_0 : decode cX0_side 0 = .ok (.iload_n 1, 1) := by decide +kernel
theorem dX0_side_1 : decode cX0_side 1 = .ok (.ifCond .ne 10, 3) := by decide +kernel
theorem dX0_side_4 : decode cX0_side 4 = .ok (.aload_n 0, 1) := by decide +kernel
theorem dX0_side_5 : decode cX0_side 5 = .ok (.getfield 12, 3) := by decide +kernel
theorem dX0_side_8 : decode cX0_side 8 = .ok (.goto 7, 3) := by decide +kernel
theorem dX0_side_11 : decode cX0_side 11 = .ok (.aload_n 0, 1) := by decide +kernel
theorem dX0_side_12 : decode cX0_side 12 = .ok (.getfield 18, 3) := by decide +kernel
theorem dX0_side_15 : decode cX0_side 15 = .ok (.areturn, 1) := by decide +kernel
theorem dX0_downSide_0 : decode cX0_downSide 0 = .ok (.aload_n 0, 1) := by decide +kernel
theorem dX0_downSide_1 : decode cX0_downSide 1 = .ok (.aload_n 0, 1) := by decide +kernel
theorem dX0_downSide_2 : decode cX0_downSide 2 = .ok (.getfield 41, 3) := by decide +kernel
theorem dX0_downSide_5 : decode cX0_downSide 5 = .ok (.invokevirtual 61, 3) := by decide +kernel
theorem dX0_downSide_8 : decode cX0_downSide 8 = .ok (.areturn, 1) := by decide +kernel
theorem dX0_hangs_0 : decode cX0_hangs 0 = .ok (.aload_n 0, 1) := by decide +kernel
theorem dX0_hangs_1 : decode cX0_hangs 1 = .ok (.getfield 32, 3) := by decide +kernel
theorem dX0_hangs_4 : decode cX0_hangs 4 = .ok (.iconst 2, 1) := by decide +kernel
theorem dX0_hangs_5 : decode cX0_hangs 5 = .ok (.if_icmp .ne 7, 3) := by decide +kernel
theorem dX0_hangs_8 : decode cX0_hangs 8 = .ok (.iconst 1, 1) := by decide +kernel
theorem dX0_hangs_9 : decode cX0_hangs 9 = .ok (.goto 4, 3) := by decide +kernel
theorem dX0_hangs_12 : decode cX0_hangs 12 = .ok (.iconst 0, 1) := by decide +kernel
theorem dX0_hangs_13 : decode cX0_hangs 13 = .ok (.ireturn, 1) := by decide +kernel
theorem dX0_isBurnt_0 : decode cX0_isBurnt 0 = .ok (.aload_n 0, 1) := by decide +kernel
theorem dX0_isBurnt_1 : decode cX0_isBurnt 1 = .ok (.getfield 12, 3) := by decide +kernel
theorem dX0_isBurnt_4 : decode cX0_isBurnt 4 = .ok (.invokevirtual 76, 3) := by decide +kernel
theorem dX0_isBurnt_7 : decode cX0_isBurnt 7 = .ok (.ifCond .ne 13, 3) := by decide +kernel
theorem dX0_isBurnt_10 : decode cX0_isBurnt 10 = .ok (.aload_n 0, 1) := by decide +kernel
theorem dX0_isBurnt_11 : decode cX0_isBurnt 11 = .ok (.getfield 18, 3) := by decide +kernel
theorem dX0_isBurnt_14 : decode cX0_isBurnt 14 = .ok (.invokevirtual 76, 3) := by decide +kernel
theorem dX0_isBurnt_17 : decode cX0_isBurnt 17 = .ok (.ifCond .eq 7, 3) := by decide +kernel
theorem dX0_isBurnt_20 : decode cX0_isBurnt 20 = .ok (.iconst 1, 1) := by decide +kernel
theorem dX0_isBurnt_21 : decode cX0_isBurnt 21 = .ok (.goto 4, 3) := by decide +kernel
theorem dX0_isBurnt_24 : decode cX0_isBurnt 24 = .ok (.iconst 0, 1) := by decide +kernel
theorem dX0_isBurnt_25 : decode cX0_isBurnt 25 = .ok (.ireturn, 1) := by decide +kernel
theorem dX0_isReady_0 : decode cX0_isReady 0 = .ok (.aload_n 0, 1) := by decide +kernel
theorem dX0_isReady_1 : decode cX0_isReady 1 = .ok (.invokevirtual 80, 3) := by decide +kernel
theorem dX0_isReady_4 : decode cX0_isReady 4 = .ok (.ifCond .ne 14, 3) := by decide +kernel
theorem dX0_isReady_7 : decode cX0_isReady 7 = .ok (.aload_n 0, 1) := by decide +kernel
theorem dX0_isReady_8 : decode cX0_isReady 8 = .ok (.invokevirtual 81, 3) := by decide +kernel
theorem dX0_isReady_11 : decode cX0_isReady 11 = .ok (.ifCond .ne 7, 3) := by decide +kernel
theorem dX0_isReady_14 : decode cX0_isReady 14 = .ok (.iconst 1, 1) := by decide +kernel
theorem dX0_isReady_15 : decode cX0_isReady 15 = .ok (.goto 4, 3) := by decide +kernel
theorem dX0_isReady_18 : decode cX0_isReady 18 = .ok (.iconst 0, 1) := by decide +kernel
theorem dX0_isReady_19 : decode cX0_isReady 19 = .ok (.ireturn, 1) := by decide +kernel
theorem dX0_heatBorne_0 : decode cX0_heatBorne 0 = .ok (.iconst 2, 1) := by decide +kernel
theorem dX0_heatBorne_1 : decode cX0_heatBorne 1 = .ok (.aload_n 0, 1) := by decide +kernel
theorem dX0_heatBorne_2 : decode cX0_heatBorne 2 = .ok (.getfield 29, 3) := by decide +kernel
theorem dX0_heatBorne_5 : decode cX0_heatBorne 5 = .ok (.iconst 3, 1) := by decide +kernel
theorem dX0_heatBorne_6 : decode cX0_heatBorne 6 = .ok (.idiv, 1) := by decide +kernel
theorem dX0_heatBorne_7 : decode cX0_heatBorne 7 = .ok (.iadd, 1) := by decide +kernel
theorem dX0_heatBorne_8 : decode cX0_heatBorne 8 = .ok (.ireturn, 1) := by decide +kernel
theorem dX0_gapNeeded_0 : decode cX0_gapNeeded 0 = .ok (.iconst 1, 1) := by decide +kernel
theorem dX0_gapNeeded_1 : decode cX0_gapNeeded 1 = .ok (.aload_n 0, 1) := by decide +kernel
theorem dX0_gapNeeded_2 : decode cX0_gapNeeded 2 = .ok (.getfield 25, 3) := by decide +kernel
theorem dX0_gapNeeded_5 : decode cX0_gapNeeded 5 = .ok (.iconst 3, 1) := by decide +kernel
theorem dX0_gapNeeded_6 : decode cX0_gapNeeded 6 = .ok (.idiv, 1) := by decide +kernel
theorem dX0_gapNeeded_7 : decode cX0_gapNeeded 7 = .ok (.iadd, 1) := by decide +kernel
theorem dX0_gapNeeded_8 : decode cX0_gapNeeded 8 = .ok (.ireturn, 1) := by decide +kernel
theorem dX0_smokeLacking_0 : decode cX0_smokeLacking 0 = .ok (.iconst 5, 1) := by decide +kernel
theorem dX0_smokeLacking_1 : decode cX0_smokeLacking 1 = .ok (.aload_n 0, 1) := by decide +kernel
theorem dX0_smokeLacking_2 : decode cX0_smokeLacking 2 = .ok (.getfield 25, 3) := by decide +kernel
theorem dX0_smokeLacking_5 : decode cX0_smokeLacking 5 = .ok (.iadd, 1) := by decide +kernel
theorem dX0_smokeLacking_6 : decode cX0_smokeLacking 6 = .ok (.istore_n 1, 1) := by decide +kernel
theorem dX0_smokeLacking_7 : decode cX0_smokeLacking 7 = .ok (.iconst 0, 1) := by decide +kernel
theorem dX0_smokeLacking_8 : decode cX0_smokeLacking 8 = .ok (.iload_n 1, 1) := by decide +kernel
theorem dX0_smokeLacking_9 : decode cX0_smokeLacking 9 = .ok (.aload_n 0, 1) := by decide +kernel
theorem dX0_smokeLacking_10 : decode cX0_smokeLacking 10 = .ok (.getfield 12, 3) := by decide +kernel
theorem dX0_smokeLacking_13 : decode cX0_smokeLacking 13 = .ok (.getfield 84, 3) := by decide +kernel
theorem dX0_smokeLacking_16 : decode cX0_smokeLacking 16 = .ok (.isub, 1) := by decide +kernel
theorem dX0_smokeLacking_17 : decode cX0_smokeLacking 17 = .ok (.invokestatic 87, 3) := by decide +kernel
theorem dX0_smokeLacking_20 : decode cX0_smokeLacking 20 = .ok (.iconst 0, 1) := by decide +kernel
theorem dX0_smokeLacking_21 : decode cX0_smokeLacking 21 = .ok (.iload_n 1, 1) := by decide +kernel
theorem dX0_smokeLacking_22 : decode cX0_smokeLacking 22 = .ok (.aload_n 0, 1) := by decide +kernel
theorem dX0_smokeLacking_23 : decode cX0_smokeLacking 23 = .ok (.getfield 18, 3) := by decide +kernel
theorem dX0_smokeLacking_26 : decode cX0_smokeLacking 26 = .ok (.getfield 84, 3) := by decide +kernel
theorem dX0_smokeLacking_29 : decode cX0_smokeLacking 29 = .ok (.isub, 1) := by decide +kernel
theorem dX0_smokeLacking_30 : decode cX0_smokeLacking 30 = .ok (.invokestatic 87, 3) := by decide +kernel
theorem dX0_smokeLacking_33 : decode cX0_smokeLacking 33 = .ok (.iadd, 1) := by decide +kernel
theorem dX0_smokeLacking_34 : decode cX0_smokeLacking 34 = .ok (.ireturn, 1) := by decide +kernel
theorem dX0_price_0 : decode cX0_price 0 = .ok (.aload_n 0, 1) := by decide +kernel
theorem dX0_price_1 : decode cX0_price 1 = .ok (.getfield 25, 3) := by decide +kernel
theorem dX0_price_4 : decode cX0_price 4 = .ok (.iconst 3, 1) := by decide +kernel
theorem dX0_price_5 : decode cX0_price 5 = .ok (.imul, 1) := by decide +kernel
theorem dX0_price_6 : decode cX0_price 6 = .ok (.aload_n 0, 1) := by decide +kernel
theorem dX0_price_7 : decode cX0_price 7 = .ok (.getfield 29, 3) := by decide +kernel
theorem dX0_price_10 : decode cX0_price 10 = .ok (.bipush 6, 2) := by decide +kernel
theorem dX0_price_12 : decode cX0_price 12 = .ok (.if_icmp .gt 10, 3) := by decide +kernel
theorem dX0_price_15 : decode cX0_price 15 = .ok (.aload_n 0, 1) := by decide +kernel
theorem dX0_price_16 : decode cX0_price 16 = .ok (.getfield 29, 3) := by decide +kernel
theorem dX0_price_19 : decode cX0_price 19 = .ok (.goto 4, 3) := by decide +kernel
theorem dX0_price_22 : decode cX0_price 22 = .ok (.iconst 0, 1) := by decide +kernel
theorem dX0_price_23 : decode cX0_price 23 = .ok (.iadd, 1) := by decide +kernel
theorem dX0_price_24 : decode cX0_price 24 = .ok (.ireturn, 1) := by decide +kernel
theorem dX0_number_0 : decode cX0_number 0 = .ok (.iload_n 1, 1) := by decide +kernel
theorem dX0_number_1 : decode cX0_number 1 = .ok (.tableswitch 95 0 7 #[47, 52, 57, 62, 67, 72, 77, 90], 47) := by decide +kernel
theorem dX0_number_48 : decode cX0_number 48 = .ok (.aload_n 0, 1) := by decide +kernel
theorem dX0_number_49 : decode cX0_number 49 = .ok (.getfield 25, 3) := by decide +kernel
theorem dX0_number_52 : decode cX0_number 52 = .ok (.ireturn, 1) := by decide +kernel
theorem dX0_number_53 : decode cX0_number 53 = .ok (.aload_n 0, 1) := by decide +kernel
theorem dX0_number_54 : decode cX0_number 54 = .ok (.getfield 29, 3) := by decide +kernel
theorem dX0_number_57 : decode cX0_number 57 = .ok (.ireturn, 1) := by decide +kernel
theorem dX0_number_58 : decode cX0_number 58 = .ok (.aload_n 0, 1) := by decide +kernel
theorem dX0_number_59 : decode cX0_number 59 = .ok (.getfield 32, 3) := by decide +kernel
theorem dX0_number_62 : decode cX0_number 62 = .ok (.ireturn, 1) := by decide +kernel
theorem dX0_number_63 : decode cX0_number 63 = .ok (.aload_n 0, 1) := by decide +kernel
theorem dX0_number_64 : decode cX0_number 64 = .ok (.getfield 35, 3) := by decide +kernel
theorem dX0_number_67 : decode cX0_number 67 = .ok (.ireturn, 1) := by decide +kernel
theorem dX0_number_68 : decode cX0_number 68 = .ok (.aload_n 0, 1) := by decide +kernel
theorem dX0_number_69 : decode cX0_number 69 = .ok (.getfield 38, 3) := by decide +kernel
theorem dX0_number_72 : decode cX0_number 72 = .ok (.ireturn, 1) := by decide +kernel
theorem dX0_number_73 : decode cX0_number 73 = .ok (.aload_n 0, 1) := by decide +kernel
theorem dX0_number_74 : decode cX0_number 74 = .ok (.getfield 41, 3) := by decide +kernel
theorem dX0_number_77 : decode cX0_number 77 = .ok (.ireturn, 1) := by decide +kernel
theorem dX0_number_78 : decode cX0_number 78 = .ok (.aload_n 0, 1) := by decide +kernel
theorem dX0_number_79 : decode cX0_number 79 = .ok (.getfield 44, 3) := by decide +kernel
theorem dX0_number_82 : decode cX0_number 82 = .ok (.ifCond .eq 7, 3) := by decide +kernel
theorem dX0_number_85 : decode cX0_number 85 = .ok (.iconst 1, 1) := by decide +kernel
theorem dX0_number_86 : decode cX0_number 86 = .ok (.goto 4, 3) := by decide +kernel
theorem dX0_number_89 : decode cX0_number 89 = .ok (.iconst 0, 1) := by decide +kernel
theorem dX0_number_90 : decode cX0_number 90 = .ok (.ireturn, 1) := by decide +kernel
theorem dX0_number_91 : decode cX0_number 91 = .ok (.aload_n 0, 1) := by decide +kernel
theorem dX0_number_92 : decode cX0_number 92 = .ok (.invokevirtual 69, 3) := by decide +kernel
theorem dX0_number_95 : decode cX0_number 95 = .ok (.ireturn, 1) := by decide +kernel
theorem dX0_number_96 : decode cX0_number 96 = .ok (.aload_n 0, 1) := by decide +kernel
theorem dX0_number_97 : decode cX0_number 97 = .ok (.invokevirtual 90, 3) := by decide +kernel
theorem dX0_number_100 : decode cX0_number 100 = .ok (.ireturn, 1) := by decide +kernel
theorem dX0_measured_0 : decode cX0_measured 0 = .ok (.iload_n 1, 1) := by decide +kernel
theorem dX0_measured_1 : decode cX0_measured 1 = .ok (.tableswitch 75 0 3 #[31, 36, 41, 57], 31) := by decide +kernel
theorem dX0_measured_32 : decode cX0_measured 32 = .ok (.aload_n 0, 1) := by decide +kernel
theorem dX0_measured_33 : decode cX0_measured 33 = .ok (.getfield 25, 3) := by decide +kernel
theorem dX0_measured_36 : decode cX0_measured 36 = .ok (.ireturn, 1) := by decide +kernel
theorem dX0_measured_37 : decode cX0_measured 37 = .ok (.aload_n 0, 1) := by decide +kernel
theorem dX0_measured_38 : decode cX0_measured 38 = .ok (.getfield 29, 3) := by decide +kernel
theorem dX0_measured_41 : decode cX0_measured 41 = .ok (.ireturn, 1) := by decide +kernel
theorem dX0_measured_42 : decode cX0_measured 42 = .ok (.aload_n 0, 1) := by decide +kernel
theorem dX0_measured_43 : decode cX0_measured 43 = .ok (.getfield 12, 3) := by decide +kernel
theorem dX0_measured_46 : decode cX0_measured 46 = .ok (.getfield 84, 3) := by decide +kernel
theorem dX0_measured_49 : decode cX0_measured 49 = .ok (.aload_n 0, 1) := by decide +kernel
theorem dX0_measured_50 : decode cX0_measured 50 = .ok (.getfield 18, 3) := by decide +kernel
theorem dX0_measured_53 : decode cX0_measured 53 = .ok (.getfield 84, 3) := by decide +kernel
theorem dX0_measured_56 : decode cX0_measured 56 = .ok (.iadd, 1) := by decide +kernel
theorem dX0_measured_57 : decode cX0_measured 57 = .ok (.ireturn, 1) := by decide +kernel
theorem dX0_measured_58 : decode cX0_measured 58 = .ok (.aload_n 0, 1) := by decide +kernel
theorem dX0_measured_59 : decode cX0_measured 59 = .ok (.getfield 12, 3) := by decide +kernel
theorem dX0_measured_62 : decode cX0_measured 62 = .ok (.getfield 93, 3) := by decide +kernel
theorem dX0_measured_65 : decode cX0_measured 65 = .ok (.aload_n 0, 1) := by decide +kernel
theorem dX0_measured_66 : decode cX0_measured 66 = .ok (.getfield 18, 3) := by decide +kernel
theorem dX0_measured_69 : decode cX0_measured 69 = .ok (.getfield 93, 3) := by decide +kernel
theorem dX0_measured_72 : decode cX0_measured 72 = .ok (.invokestatic 87, 3) := by decide +kernel
theorem dX0_measured_75 : decode cX0_measured 75 = .ok (.ireturn, 1) := by decide +kernel
theorem dX0_measured_76 : decode cX0_measured 76 = .ok (.aload_n 0, 1) := by decide +kernel
theorem dX0_measured_77 : decode cX0_measured 77 = .ok (.invokevirtual 96, 3) := by decide +kernel
theorem dX0_measured_80 : decode cX0_measured 80 = .ok (.ireturn, 1) := by decide +kernel
theorem dX1_init_0 : decode cX1_init 0 = .ok (.aload_n 0, 1) := by decide +kernel
theorem dX1_init_1 : decode cX1_init 1 = .ok (.invokespecial 3, 3) := by decide +kernel
theorem dX1_init_4 : decode cX1_init 4 = .ok (.aload_n 0, 1) := by decide +kernel
theorem dX1_init_5 : decode cX1_init 5 = .ok (.new 9, 3) := by decide +kernel
theorem dX1_init_8 : decode cX1_init 8 = .ok (.dup, 1) := by decide +kernel
theorem dX1_init_9 : decode cX1_init 9 = .ok (.invokespecial 11, 3) := by decide +kernel
theorem dX1_init_12 : decode cX1_init 12 = .ok (.putfield 12, 3) := by decide +kernel
theorem dX1_init_15 : decode cX1_init 15 = .ok (.aload_n 0, 1) := by decide +kernel
theorem dX1_init_16 : decode cX1_init 16 = .ok (.aload_n 1, 1) := by decide +kernel
theorem dX1_init_17 : decode cX1_init 17 = .ok (.putfield 18, 3) := by decide +kernel
theorem dX1_init_20 : decode cX1_init 20 = .ok (.return_, 1) := by decide +kernel
theorem dX1_charHourByHour_0 : decode cX1_charHourByHour 0 = .ok (.aload_n 0, 1) := by decide +kernel
theorem dX1_charHourByHour_1 : decode cX1_charHourByHour 1 = .ok (.getfield 18, 3) := by decide +kernel
theorem dX1_charHourByHour_4 : decode cX1_charHourByHour 4 = .ok (.iload_n 1, 1) := by decide +kernel
theorem dX1_charHourByHour_5 : decode cX1_charHourByHour 5 = .ok (.invokevirtual 22, 3) := by decide +kernel
theorem dX1_charHourByHour_8 : decode cX1_charHourByHour 8 = .ok (.istore_n 3, 1) := by decide +kernel
theorem dX1_charHourByHour_9 : decode cX1_charHourByHour 9 = .ok (.aload_n 0, 1) := by decide +kernel
theorem dX1_charHourByHour_10 : decode cX1_charHourByHour 10 = .ok (.getfield 12, 3) := by decide +kernel
theorem dX1_charHourByHour_13 : decode cX1_charHourByHour 13 = .ok (.aload_n 0, 1) := by decide +kernel
theorem dX1_charHourByHour_14 : decode cX1_charHourByHour 14 = .ok (.getfield 18, 3) := by decide +kernel
theorem dX1_charHourByHour_17 : decode cX1_charHourByHour 17 = .ok (.iload_n 1, 1) := by decide +kernel
theorem dX1_charHourByHour_18 : decode cX1_charHourByHour 18 = .ok (.invokevirtual 28, 3) := by decide +kernel
theorem dX1_charHourByHour_21 : decode cX1_charHourByHour 21 = .ok (.invokevirtual 32, 3) := by decide +kernel
theorem dX1_charHourByHour_24 : decode cX1_charHourByHour 24 = .ok (.iconst 0, 1) := by decide +kernel
theorem dX1_charHourByHour_25 : decode cX1_charHourByHour 25 = .ok (.istore 4, 2) := by decide +kernel
theorem dX1_charHourByHour_27 : decode cX1_charHourByHour 27 = .ok (.iload 4, 2) := by decide +kernel
theorem dX1_charHourByHour_29 : decode cX1_charHourByHour 29 = .ok (.iload_n 2, 1) := by decide +kernel
theorem dX1_charHourByHour_30 : decode cX1_charHourByHour 30 = .ok (.if_icmp .ge 16, 3) := by decide +kernel
theorem dX1_charHourByHour_33 : decode cX1_charHourByHour 33 = .ok (.aload_n 0, 1) := by decide +kernel
theorem dX1_charHourByHour_34 : decode cX1_charHourByHour 34 = .ok (.iload 4, 2) := by decide +kernel
theorem dX1_charHourByHour_36 : decode cX1_charHourByHour 36 = .ok (.iload_n 3, 1) := by decide +kernel
theorem dX1_charHourByHour_37 : decode cX1_charHourByHour 37 = .ok (.invokevirtual 36, 3) := by decide +kernel
theorem dX1_charHourByHour_40 : decode cX1_charHourByHour 40 = .ok (.iinc 4 1, 3) := by decide +kernel
theorem dX1_charHourByHour_43 : decode cX1_charHourByHour 43 = .ok (.goto (-16), 3) := by decide +kernel
theorem dX1_charHourByHour_46 : decode cX1_charHourByHour 46 = .ok (.aload_n 0, 1) := by decide +kernel
theorem dX1_charHourByHour_47 : decode cX1_charHourByHour 47 = .ok (.getfield 12, 3) := by decide +kernel
theorem dX1_charHourByHour_50 : decode cX1_charHourByHour 50 = .ok (.invokevirtual 40, 3) := by decide +kernel
theorem dX1_charHourByHour_53 : decode cX1_charHourByHour 53 = .ok (.getfield 44, 3) := by decide +kernel
theorem dX1_charHourByHour_56 : decode cX1_charHourByHour 56 = .ok (.ireturn, 1) := by decide +kernel
theorem dX1_charAtOnce_0 : decode cX1_charAtOnce 0 = .ok (.aload_n 0, 1) := by decide +kernel
theorem dX1_charAtOnce_1 : decode cX1_charAtOnce 1 = .ok (.getfield 18, 3) := by decide +kernel
theorem dX1_charAtOnce_4 : decode cX1_charAtOnce 4 = .ok (.iload_n 1, 1) := by decide +kernel
theorem dX1_charAtOnce_5 : decode cX1_charAtOnce 5 = .ok (.invokevirtual 28, 3) := by decide +kernel
theorem dX1_charAtOnce_8 : decode cX1_charAtOnce 8 = .ok (.astore_n 3, 1) := by decide +kernel
theorem dX1_charAtOnce_9 : decode cX1_charAtOnce 9 = .ok (.aload_n 3, 1) := by decide +kernel
theorem dX1_charAtOnce_10 : decode cX1_charAtOnce 10 = .ok (.invokevirtual 40, 3) := by decide +kernel
theorem dX1_charAtOnce_13 : decode cX1_charAtOnce 13 = .ok (.getfield 44, 3) := by decide +kernel
theorem dX1_charAtOnce_16 : decode cX1_charAtOnce 16 = .ok (.istore 4, 2) := by decide +kernel
theorem dX1_charAtOnce_18 : decode cX1_charAtOnce 18 = .ok (.aload_n 3, 1) := by decide +kernel
theorem dX1_charAtOnce_19 : decode cX1_charAtOnce 19 = .ok (.invokevirtual 50, 3) := by decide +kernel
theorem dX1_charAtOnce_22 : decode cX1_charAtOnce 22 = .ok (.ifCond .ne 6, 3) := by decide +kernel
theorem dX1_charAtOnce_25 : decode cX1_charAtOnce 25 = .ok (.iload 4, 2) := by decide +kernel
theorem dX1_charAtOnce_27 : decode cX1_charAtOnce 27 = .ok (.ireturn, 1) := by decide +kernel
theorem dX1_charAtOnce_28 : decode cX1_charAtOnce 28 = .ok (.aload_n 0, 1) := by decide +kernel
theorem dX1_charAtOnce_29 : decode cX1_charAtOnce 29 = .ok (.getfield 18, 3) := by decide +kernel
theorem dX1_charAtOnce_32 : decode cX1_charAtOnce 32 = .ok (.getfield 54, 3) := by decide +kernel
theorem dX1_charAtOnce_35 : decode cX1_charAtOnce 35 = .ok (.aload_n 3, 1) := by decide +kernel
theorem dX1_charAtOnce_36 : decode cX1_charAtOnce 36 = .ok (.getfield 57, 3) := by decide +kernel
theorem dX1_charAtOnce_39 : decode cX1_charAtOnce 39 = .ok (.invokestatic 60, 3) := by decide +kernel
theorem dX1_charAtOnce_42 : decode cX1_charAtOnce 42 = .ok (.aload_n 3, 1) := by decide +kernel
theorem dX1_charAtOnce_43 : decode cX1_charAtOnce 43 = .ok (.invokevirtual 64, 3) := by decide +kernel
theorem dX1_charAtOnce_46 : decode cX1_charAtOnce 46 = .ok (.isub, 1) := by decide +kernel
theorem dX1_charAtOnce_47 : decode cX1_charAtOnce 47 = .ok (.istore 5, 2) := by decide +kernel
theorem dX1_charAtOnce_49 : decode cX1_charAtOnce 49 = .ok (.aload_n 3, 1) := by decide +kernel
theorem dX1_charAtOnce_50 : decode cX1_charAtOnce 50 = .ok (.getfield 68, 3) := by decide +kernel
theorem dX1_charAtOnce_53 : decode cX1_charAtOnce 53 = .ok (.ifCond .eq 7, 3) := by decide +kernel
theorem dX1_charAtOnce_56 : decode cX1_charAtOnce 56 = .ok (.iconst 1, 1) := by decide +kernel
theorem dX1_charAtOnce_57 : decode cX1_charAtOnce 57 = .ok (.goto 4, 3) := by decide +kernel
theorem dX1_charAtOnce_60 : decode cX1_charAtOnce 60 = .ok (.iconst 0, 1) := by decide +kernel
theorem dX1_charAtOnce_61 : decode cX1_charAtOnce 61 = .ok (.istore 6, 2) := by decide +kernel
theorem dX1_charAtOnce_63 : decode cX1_charAtOnce 63 = .ok (.iload_n 2, 1) := by decide +kernel
theorem dX1_charAtOnce_64 : decode cX1_charAtOnce 64 = .ok (.iload 5, 2) := by decide +kernel
theorem dX1_charAtOnce_66 : decode cX1_charAtOnce 66 = .ok (.invokestatic 72, 3) := by decide +kernel
theorem dX1_charAtOnce_69 : decode cX1_charAtOnce 69 = .ok (.istore 7, 2) := by decide +kernel
theorem dX1_charAtOnce_71 : decode cX1_charAtOnce 71 = .ok (.iload 7, 2) := by decide +kernel
theorem dX1_charAtOnce_73 : decode cX1_charAtOnce 73 = .ok (.iload 6, 2) := by decide +kernel
theorem dX1_charAtOnce_75 : decode cX1_charAtOnce 75 = .ok (.if_icmp .gt 6, 3) := by decide +kernel
theorem dX1_charAtOnce_78 : decode cX1_charAtOnce 78 = .ok (.iload 4, 2) := by decide +kernel
theorem dX1_charAtOnce_80 : decode cX1_charAtOnce 80 = .ok (.ireturn, 1) := by decide +kernel
theorem dX1_charAtOnce_81 : decode cX1_charAtOnce 81 = .ok (.iload 7, 2) := by decide +kernel
theorem dX1_charAtOnce_83 : decode cX1_charAtOnce 83 = .ok (.iload 6, 2) := by decide +kernel
theorem dX1_charAtOnce_85 : decode cX1_charAtOnce 85 = .ok (.isub, 1) := by decide +kernel
theorem dX1_charAtOnce_86 : decode cX1_charAtOnce 86 = .ok (.iconst 2, 1) := by decide +kernel
theorem dX1_charAtOnce_87 : decode cX1_charAtOnce 87 = .ok (.iload 5, 2) := by decide +kernel
theorem dX1_charAtOnce_89 : decode cX1_charAtOnce 89 = .ok (.imul, 1) := by decide +kernel
theorem dX1_charAtOnce_90 : decode cX1_charAtOnce 90 = .ok (.iload 6, 2) := by decide +kernel
theorem dX1_charAtOnce_92 : decode cX1_charAtOnce 92 = .ok (.isub, 1) := by decide +kernel
theorem dX1_charAtOnce_93 : decode cX1_charAtOnce 93 = .ok (.iload 7, 2) := by decide +kernel
theorem dX1_charAtOnce_95 : decode cX1_charAtOnce 95 = .ok (.isub, 1) := by decide +kernel
theorem dX1_charAtOnce_96 : decode cX1_charAtOnce 96 = .ok (.iconst 1, 1) := by decide +kernel
theorem dX1_charAtOnce_97 : decode cX1_charAtOnce 97 = .ok (.iadd, 1) := by decide +kernel
theorem dX1_charAtOnce_98 : decode cX1_charAtOnce 98 = .ok (.imul, 1) := by decide +kernel
theorem dX1_charAtOnce_99 : decode cX1_charAtOnce 99 = .ok (.iconst 2, 1) := by decide +kernel
theorem dX1_charAtOnce_100 : decode cX1_charAtOnce 100 = .ok (.idiv, 1) := by decide +kernel
theorem dX1_charAtOnce_101 : decode cX1_charAtOnce 101 = .ok (.istore 8, 2) := by decide +kernel
theorem dX1_charAtOnce_103 : decode cX1_charAtOnce 103 = .ok (.bipush 9, 2) := by decide +kernel
theorem dX1_charAtOnce_105 : decode cX1_charAtOnce 105 = .ok (.iload 4, 2) := by decide +kernel
theorem dX1_charAtOnce_107 : decode cX1_charAtOnce 107 = .ok (.iload 8, 2) := by decide +kernel
theorem dX1_charAtOnce_109 : decode cX1_charAtOnce 109 = .ok (.iadd, 1) := by decide +kernel
theorem dX1_charAtOnce_110 : decode cX1_charAtOnce 110 = .ok (.invokestatic 72, 3) := by decide +kernel
theorem dX1_charAtOnce_113 : decode cX1_charAtOnce 113 = .ok (.ireturn, 1) := by decide +kernel
theorem dX1_hoursUntilBurnt_0 : decode cX1_hoursUntilBurnt 0 = .ok (.aload_n 0, 1) := by decide +kernel
theorem dX1_hoursUntilBurnt_1 : decode cX1_hoursUntilBurnt 1 = .ok (.getfield 18, 3) := by decide +kernel
theorem dX1_hoursUntilBurnt_4 : decode cX1_hoursUntilBurnt 4 = .ok (.iload_n 1, 1) := by decide +kernel
theorem dX1_hoursUntilBurnt_5 : decode cX1_hoursUntilBurnt 5 = .ok (.invokevirtual 22, 3) := by decide +kernel
theorem dX1_hoursUntilBurnt_8 : decode cX1_hoursUntilBurnt 8 = .ok (.istore_n 2, 1) := by decide +kernel
theorem dX1_hoursUntilBurnt_9 : decode cX1_hoursUntilBurnt 9 = .ok (.aload_n 0, 1) := by decide +kernel
theorem dX1_hoursUntilBurnt_10 : decode cX1_hoursUntilBurnt 10 = .ok (.getfield 12, 3) := by decide +kernel
theorem dX1_hoursUntilBurnt_13 : decode cX1_hoursUntilBurnt 13 = .ok (.aload_n 0, 1) := by decide +kernel
theorem dX1_hoursUntilBurnt_14 : decode cX1_hoursUntilBurnt 14 = .ok (.getfield 18, 3) := by decide +kernel
theorem dX1_hoursUntilBurnt_17 : decode cX1_hoursUntilBurnt 17 = .ok (.iload_n 1, 1) := by decide +kernel
theorem dX1_hoursUntilBurnt_18 : decode cX1_hoursUntilBurnt 18 = .ok (.invokevirtual 28, 3) := by decide +kernel
theorem dX1_hoursUntilBurnt_21 : decode cX1_hoursUntilBurnt 21 = .ok (.invokevirtual 32, 3) := by decide +kernel
theorem dX1_hoursUntilBurnt_24 : decode cX1_hoursUntilBurnt 24 = .ok (.iconst 0, 1) := by decide +kernel
theorem dX1_hoursUntilBurnt_25 : decode cX1_hoursUntilBurnt 25 = .ok (.istore_n 3, 1) := by decide +kernel
theorem dX1_hoursUntilBurnt_26 : decode cX1_hoursUntilBurnt 26 = .ok (.iload_n 3, 1) := by decide +kernel
theorem dX1_hoursUntilBurnt_27 : decode cX1_hoursUntilBurnt 27 = .ok (.bipush 12, 2) := by decide +kernel
theorem dX1_hoursUntilBurnt_29 : decode cX1_hoursUntilBurnt 29 = .ok (.if_icmp .gt 27, 3) := by decide +kernel
theorem dX1_hoursUntilBurnt_32 : decode cX1_hoursUntilBurnt 32 = .ok (.aload_n 0, 1) := by decide +kernel
theorem dX1_hoursUntilBurnt_33 : decode cX1_hoursUntilBurnt 33 = .ok (.getfield 12, 3) := by decide +kernel
theorem dX1_hoursUntilBurnt_36 : decode cX1_hoursUntilBurnt 36 = .ok (.invokevirtual 77, 3) := by decide +kernel
theorem dX1_hoursUntilBurnt_39 : decode cX1_hoursUntilBurnt 39 = .ok (.ifCond .eq 5, 3) := by decide +kernel
theorem dX1_hoursUntilBurnt_42 : decode cX1_hoursUntilBurnt 42 = .ok (.iload_n 3, 1) := by decide +kernel
theorem dX1_hoursUntilBurnt_43 : decode cX1_hoursUntilBurnt 43 = .ok (.ireturn, 1) := by decide +kernel
theorem dX1_hoursUntilBurnt_44 : decode cX1_hoursUntilBurnt 44 = .ok (.aload_n 0, 1) := by decide +kernel
theorem dX1_hoursUntilBurnt_45 : decode cX1_hoursUntilBurnt 45 = .ok (.iload_n 3, 1) := by decide +kernel
theorem dX1_hoursUntilBurnt_46 : decode cX1_hoursUntilBurnt 46 = .ok (.iload_n 2, 1) := by decide +kernel
theorem dX1_hoursUntilBurnt_47 : decode cX1_hoursUntilBurnt 47 = .ok (.invokevirtual 36, 3) := by decide +kernel
theorem dX1_hoursUntilBurnt_50 : decode cX1_hoursUntilBurnt 50 = .ok (.iinc 3 1, 3) := by decide +kernel
theorem dX1_hoursUntilBurnt_53 : decode cX1_hoursUntilBurnt 53 = .ok (.goto (-27), 3) := by decide +kernel
theorem dX1_hoursUntilBurnt_56 : decode cX1_hoursUntilBurnt 56 = .ok (.iconst (-1), 1) := by decide +kernel
theorem dX1_hoursUntilBurnt_57 : decode cX1_hoursUntilBurnt 57 = .ok (.ireturn, 1) := by decide +kernel
theorem dX1_hoursUntilReady_0 : decode cX1_hoursUntilReady 0 = .ok (.aload_n 0, 1) := by decide +kernel
theorem dX1_hoursUntilReady_1 : decode cX1_hoursUntilReady 1 = .ok (.getfield 18, 3) := by decide +kernel
theorem dX1_hoursUntilReady_4 : decode cX1_hoursUntilReady 4 = .ok (.iload_n 1, 1) := by decide +kernel
theorem dX1_hoursUntilReady_5 : decode cX1_hoursUntilReady 5 = .ok (.invokevirtual 22, 3) := by decide +kernel
theorem dX1_hoursUntilReady_8 : decode cX1_hoursUntilReady 8 = .ok (.istore_n 2, 1) := by decide +kernel
theorem dX1_hoursUntilReady_9 : decode cX1_hoursUntilReady 9 = .ok (.aload_n 0, 1) := by decide +kernel
theorem dX1_hoursUntilReady_10 : decode cX1_hoursUntilReady 10 = .ok (.getfield 12, 3) := by decide +kernel
theorem dX1_hoursUntilReady_13 : decode cX1_hoursUntilReady 13 = .ok (.aload_n 0, 1) := by decide +kernel
theorem dX1_hoursUntilReady_14 : decode cX1_hoursUntilReady 14 = .ok (.getfield 18, 3) := by decide +kernel
theorem dX1_hoursUntilReady_17 : decode cX1_hoursUntilReady 17 = .ok (.iload_n 1, 1) := by decide +kernel
theorem dX1_hoursUntilReady_18 : decode cX1_hoursUntilReady 18 = .ok (.invokevirtual 28, 3) := by decide +kernel
theorem dX1_hoursUntilReady_21 : decode cX1_hoursUntilReady 21 = .ok (.invokevirtual 32, 3) := by decide +kernel
theorem dX1_hoursUntilReady_24 : decode cX1_hoursUntilReady 24 = .ok (.iconst 0, 1) := by decide +kernel
theorem dX1_hoursUntilReady_25 : decode cX1_hoursUntilReady 25 = .ok (.istore_n 3, 1) := by decide +kernel
theorem dX1_hoursUntilReady_26 : decode cX1_hoursUntilReady 26 = .ok (.iload_n 3, 1) := by decide +kernel
theorem dX1_hoursUntilReady_27 : decode cX1_hoursUntilReady 27 = .ok (.bipush 12, 2) := by decide +kernel
theorem dX1_hoursUntilReady_29 : decode cX1_hoursUntilReady 29 = .ok (.if_icmp .gt 34, 3) := by decide +kernel
theorem dX1_hoursUntilReady_32 : decode cX1_hoursUntilReady 32 = .ok (.aload_n 0, 1) := by decide +kernel
theorem dX1_hoursUntilReady_33 : decode cX1_hoursUntilReady 33 = .ok (.getfield 12, 3) := by decide +kernel
theorem dX1_hoursUntilReady_36 : decode cX1_hoursUntilReady 36 = .ok (.invokevirtual 80, 3) := by decide +kernel
theorem dX1_hoursUntilReady_39 : decode cX1_hoursUntilReady 39 = .ok (.ifCond .eq 5, 3) := by decide +kernel
theorem dX1_hoursUntilReady_42 : decode cX1_hoursUntilReady 42 = .ok (.iload_n 3, 1) := by decide +kernel
theorem dX1_hoursUntilReady_43 : decode cX1_hoursUntilReady 43 = .ok (.ireturn, 1) := by decide +kernel
theorem dX1_hoursUntilReady_44 : decode cX1_hoursUntilReady 44 = .ok (.aload_n 0, 1) := by decide +kernel
theorem dX1_hoursUntilReady_45 : decode cX1_hoursUntilReady 45 = .ok (.getfield 12, 3) := by decide +kernel
theorem dX1_hoursUntilReady_48 : decode cX1_hoursUntilReady 48 = .ok (.invokevirtual 83, 3) := by decide +kernel
theorem dX1_hoursUntilReady_51 : decode cX1_hoursUntilReady 51 = .ok (.aload_n 0, 1) := by decide +kernel
theorem dX1_hoursUntilReady_52 : decode cX1_hoursUntilReady 52 = .ok (.iload_n 3, 1) := by decide +kernel
theorem dX1_hoursUntilReady_53 : decode cX1_hoursUntilReady 53 = .ok (.iload_n 2, 1) := by decide +kernel
theorem dX1_hoursUntilReady_54 : decode cX1_hoursUntilReady 54 = .ok (.invokevirtual 36, 3) := by decide +kernel
theorem dX1_hoursUntilReady_57 : decode cX1_hoursUntilReady 57 = .ok (.iinc 3 1, 3) := by decide +kernel
theorem dX1_hoursUntilReady_60 : decode cX1_hoursUntilReady 60 = .ok (.goto (-34), 3) := by decide +kernel
theorem dX1_hoursUntilReady_63 : decode cX1_hoursUntilReady 63 = .ok (.iconst (-1), 1) := by decide +kernel
theorem dX1_hoursUntilReady_64 : decode cX1_hoursUntilReady 64 = .ok (.ireturn, 1) := by decide +kernel
theorem dX1_firstToBurn_0 : decode cX1_firstToBurn 0 = .ok (.iconst (-1), 1) := by decide +kernel
theorem dX1_firstToBurn_1 : decode cX1_firstToBurn 1 = .ok (.istore_n 1, 1) := by decide +kernel
theorem dX1_firstToBurn_2 : decode cX1_firstToBurn 2 = .ok (.bipush 13, 2) := by decide +kernel
theorem dX1_firstToBurn_4 : decode cX1_firstToBurn 4 = .ok (.istore_n 2, 1) := by decide +kernel
theorem dX1_firstToBurn_5 : decode cX1_firstToBurn 5 = .ok (.iconst 0, 1) := by decide +kernel
theorem dX1_firstToBurn_6 : decode cX1_firstToBurn 6 = .ok (.istore_n 3, 1) := by decide +kernel
theorem dX1_firstToBurn_7 : decode cX1_firstToBurn 7 = .ok (.iload_n 3, 1) := by decide +kernel
theorem dX1_firstToBurn_8 : decode cX1_firstToBurn 8 = .ok (.aload_n 0, 1) := by decide +kernel
theorem dX1_firstToBurn_9 : decode cX1_firstToBurn 9 = .ok (.getfield 18, 3) := by decide +kernel
theorem dX1_firstToBurn_12 : decode cX1_firstToBurn 12 = .ok (.getfield 86, 3) := by decide +kernel
theorem dX1_firstToBurn_15 : decode cX1_firstToBurn 15 = .ok (.if_icmp .ge 32, 3) := by decide +kernel
theorem dX1_firstToBurn_18 : decode cX1_firstToBurn 18 = .ok (.aload_n 0, 1) := by decide +kernel
theorem dX1_firstToBurn_19 : decode cX1_firstToBurn 19 = .ok (.iload_n 3, 1) := by decide +kernel
theorem dX1_firstToBurn_20 : decode cX1_firstToBurn 20 = .ok (.invokevirtual 89, 3) := by decide +kernel
theorem dX1_firstToBurn_23 : decode cX1_firstToBurn 23 = .ok (.istore 4, 2) := by decide +kernel
theorem dX1_firstToBurn_25 : decode cX1_firstToBurn 25 = .ok (.iload 4, 2) := by decide +kernel
theorem dX1_firstToBurn_27 : decode cX1_firstToBurn 27 = .ok (.ifCond .le 14, 3) := by decide +kernel
theorem dX1_firstToBurn_30 : decode cX1_firstToBurn 30 = .ok (.iload 4, 2) := by decide +kernel
theorem dX1_firstToBurn_32 : decode cX1_firstToBurn 32 = .ok (.iload_n 2, 1) := by decide +kernel
theorem dX1_firstToBurn_33 : decode cX1_firstToBurn 33 = .ok (.if_icmp .ge 8, 3) := by decide +kernel
theorem dX1_firstToBurn_36 : decode cX1_firstToBurn 36 = .ok (.iload_n 3, 1) := by decide +kernel
theorem dX1_firstToBurn_37 : decode cX1_firstToBurn 37 = .ok (.istore_n 1, 1) := by decide +kernel
theorem dX1_firstToBurn_38 : decode cX1_firstToBurn 38 = .ok (.iload 4, 2) := by decide +kernel
theorem dX1_firstToBurn_40 : decode cX1_firstToBurn 40 = .ok (.istore_n 2, 1) := by decide +kernel
theorem dX1_firstToBurn_41 : decode cX1_firstToBurn 41 = .ok (.iinc 3 1, 3) := by decide +kernel
theorem dX1_firstToBurn_44 : decode cX1_firstToBurn 44 = .ok (.goto (-37), 3) := by decide +kernel
theorem dX1_firstToBurn_47 : decode cX1_firstToBurn 47 = .ok (.iload_n 1, 1) := by decide +kernel
theorem dX1_firstToBurn_48 : decode cX1_firstToBurn 48 = .ok (.ireturn, 1) := by decide +kernel
theorem dX1_tryHour_0 : decode cX1_tryHour 0 = .ok (.aload_n 0, 1) := by decide +kernel
theorem dX1_tryHour_1 : decode cX1_tryHour 1 = .ok (.getfield 18, 3) := by decide +kernel
theorem dX1_tryHour_4 : decode cX1_tryHour 4 = .ok (.aload_n 0, 1) := by decide +kernel
theorem dX1_tryHour_5 : decode cX1_tryHour 5 = .ok (.getfield 12, 3) := by decide +kernel
theorem dX1_tryHour_8 : decode cX1_tryHour 8 = .ok (.iconst 0, 1) := by decide +kernel
theorem dX1_tryHour_9 : decode cX1_tryHour 9 = .ok (.aload_n 0, 1) := by decide +kernel
theorem dX1_tryHour_10 : decode cX1_tryHour 10 = .ok (.getfield 18, 3) := by decide +kernel
theorem dX1_tryHour_13 : decode cX1_tryHour 13 = .ok (.getfield 54, 3) := by decide +kernel
theorem dX1_tryHour_16 : decode cX1_tryHour 16 = .ok (.iload_n 1, 1) := by decide +kernel
theorem dX1_tryHour_17 : decode cX1_tryHour 17 = .ok (.isub, 1) := by decide +kernel
theorem dX1_tryHour_18 : decode cX1_tryHour 18 = .ok (.invokestatic 93, 3) := by decide +kernel
theorem dX1_tryHour_21 : decode cX1_tryHour 21 = .ok (.iload_n 2, 1) := by decide +kernel
theorem dX1_tryHour_22 : decode cX1_tryHour 22 = .ok (.invokevirtual 96, 3) := by decide +kernel
theorem dX1_tryHour_25 : decode cX1_tryHour 25 = .ok (.return_, 1) := by decide +kernel
theorem dX2_init_0 : decode cX2_init 0 = .ok (.aload_n 0, 1) := by decide +kernel
theorem dX2_init_1 : decode cX2_init 1 = .ok (.invokespecial 3, 3) := by decide +kernel
theorem dX2_init_4 : decode cX2_init 4 = .ok (.aload_n 0, 1) := by decide +kernel
theorem dX2_init_5 : decode cX2_init 5 = .ok (.bipush 8, 2) := by decide +kernel
theorem dX2_init_7 : decode cX2_init 7 = .ok (.anewarray 9, 3) := by decide +kernel
theorem dX2_init_10 : decode cX2_init 10 = .ok (.putfield 11, 3) := by decide +kernel
theorem dX2_init_13 : decode cX2_init 13 = .ok (.iconst 0, 1) := by decide +kernel
theorem dX2_init_14 : decode cX2_init 14 = .ok (.istore_n 1, 1) := by decide +kernel
theorem dX2_init_15 : decode cX2_init 15 = .ok (.iload_n 1, 1) := by decide +kernel
theorem dX2_init_16 : decode cX2_init 16 = .ok (.aload_n 0, 1) := by decide +kernel
theorem dX2_init_17 : decode cX2_init 17 = .ok (.getfield 11, 3) := by decide +kernel
theorem dX2_init_20 : decode cX2_init 20 = .ok (.arraylength, 1) := by decide +kernel
theorem dX2_init_21 : decode cX2_init 21 = .ok (.if_icmp .ge 22, 3) := by decide +kernel
theorem dX2_init_24 : decode cX2_init 24 = .ok (.aload_n 0, 1) := by decide +kernel
theorem dX2_init_25 : decode cX2_init 25 = .ok (.getfield 11, 3) := by decide +kernel
theorem dX2_init_28 : decode cX2_init 28 = .ok (.iload_n 1, 1) := by decide +kernel
theorem dX2_init_29 : decode cX2_init 29 = .ok (.new 9, 3) := by decide +kernel
theorem dX2_init_32 : decode cX2_init 32 = .ok (.dup, 1) := by decide +kernel
theorem dX2_init_33 : decode cX2_init 33 = .ok (.invokespecial 17, 3) := by decide +kernel
theorem dX2_init_36 : decode cX2_init 36 = .ok (.aastore, 1) := by decide +kernel
theorem dX2_init_37 : decode cX2_init 37 = .ok (.iinc 1 1, 3) := by decide +kernel
theorem dX2_init_40 : decode cX2_init 40 = .ok (.goto (-25), 3) := by decide +kernel
theorem dX2_init_43 : decode cX2_init 43 = .ok (.return_, 1) := by decide +kernel
theorem dX2_keep_0 : decode cX2_keep 0 = .ok (.aload_n 0, 1) := by decide +kernel
theorem dX2_keep_1 : decode cX2_keep 1 = .ok (.getfield 11, 3) := by decide +kernel
theorem dX2_keep_4 : decode cX2_keep 4 = .ok (.bipush 7, 2) := by decide +kernel
theorem dX2_keep_6 : decode cX2_keep 6 = .ok (.aaload, 1) := by decide +kernel
theorem dX2_keep_7 : decode cX2_keep 7 = .ok (.astore_n 2, 1) := by decide +kernel
theorem dX2_keep_8 : decode cX2_keep 8 = .ok (.bipush 7, 2) := by decide +kernel
theorem dX2_keep_10 : decode cX2_keep 10 = .ok (.istore_n 3, 1) := by decide +kernel
theorem dX2_keep_11 : decode cX2_keep 11 = .ok (.iload_n 3, 1) := by decide +kernel
theorem dX2_keep_12 : decode cX2_keep 12 = .ok (.ifCond .le 23, 3) := by decide +kernel
theorem dX2_keep_15 : decode cX2_keep 15 = .ok (.aload_n 0, 1) := by decide +kernel
theorem dX2_keep_16 : decode cX2_keep 16 = .ok (.getfield 11, 3) := by decide +kernel
theorem dX2_keep_19 : decode cX2_keep 19 = .ok (.iload_n 3, 1) := by decide +kernel
theorem dX2_keep_20 : decode cX2_keep 20 = .ok (.aload_n 0, 1) := by decide +kernel
theorem dX2_keep_21 : decode cX2_keep 21 = .ok (.getfield 11, 3) := by decide +kernel
theorem dX2_keep_24 : decode cX2_keep 24 = .ok (.iload_n 3, 1) := by decide +kernel
theorem dX2_keep_25 : decode cX2_keep 25 = .ok (.iconst 1, 1) := by decide +kernel
theorem dX2_keep_26 : decode cX2_keep 26 = .ok (.isub, 1) := by decide +kernel
theorem dX2_keep_27 : decode cX2_keep 27 = .ok (.aaload, 1) := by decide +kernel
theorem dX2_keep_28 : decode cX2_keep 28 = .ok (.aastore, 1) := by decide +kernel
theorem dX2_keep_29 : decode cX2_keep 29 = .ok (.iinc 3 (-1), 3) := by decide +kernel
theorem dX2_keep_32 : decode cX2_keep 32 = .ok (.goto (-21), 3) := by decide +kernel
theorem dX2_keep_35 : decode cX2_keep 35 = .ok (.aload_n 0, 1) := by decide +kernel
theorem dX2_keep_36 : decode cX2_keep 36 = .ok (.getfield 11, 3) := by decide +kernel
theorem dX2_keep_39 : decode cX2_keep 39 = .ok (.iconst 0, 1) := by decide +kernel
theorem dX2_keep_40 : decode cX2_keep 40 = .ok (.aload_n 2, 1) := by decide +kernel
theorem dX2_keep_41 : decode cX2_keep 41 = .ok (.aastore, 1) := by decide +kernel
theorem dX2_keep_42 : decode cX2_keep 42 = .ok (.aload_n 2, 1) := by decide +kernel
theorem dX2_keep_43 : decode cX2_keep 43 = .ok (.aload_n 1, 1) := by decide +kernel
theorem dX2_keep_44 : decode cX2_keep 44 = .ok (.invokevirtual 18, 3) := by decide +kernel
theorem dX2_keep_47 : decode cX2_keep 47 = .ok (.aload_n 0, 1) := by decide +kernel
theorem dX2_keep_48 : decode cX2_keep 48 = .ok (.bipush 8, 2) := by decide +kernel
theorem dX2_keep_50 : decode cX2_keep 50 = .ok (.aload_n 0, 1) := by decide +kernel
theorem dX2_keep_51 : decode cX2_keep 51 = .ok (.getfield 22, 3) := by decide +kernel
theorem dX2_keep_54 : decode cX2_keep 54 = .ok (.iconst 1, 1) := by decide +kernel
theorem dX2_keep_55 : decode cX2_keep 55 = .ok (.iadd, 1) := by decide +kernel
theorem dX2_keep_56 : decode cX2_keep 56 = .ok (.invokestatic 26, 3) := by decide +kernel
theorem dX2_keep_59 : decode cX2_keep 59 = .ok (.putfield 22, 3) := by decide +kernel
theorem dX2_keep_62 : decode cX2_keep 62 = .ok (.return_, 1) := by decide +kernel
theorem dX2_takeBack_0 : decode cX2_takeBack 0 = .ok (.aload_n 0, 1) := by decide +kernel
theorem dX2_takeBack_1 : decode cX2_takeBack 1 = .ok (.getfield 11, 3) := by decide +kernel
theorem dX2_takeBack_4 : decode cX2_takeBack 4 = .ok (.iconst 0, 1) := by decide +kernel
theorem dX2_takeBack_5 : decode cX2_takeBack 5 = .ok (.aaload, 1) := by decide +kernel
theorem dX2_takeBack_6 : decode cX2_takeBack 6 = .ok (.astore_n 2, 1) := by decide +kernel
theorem dX2_takeBack_7 : decode cX2_takeBack 7 = .ok (.iconst 1, 1) := by decide +kernel
theorem dX2_takeBack_8 : decode cX2_takeBack 8 = .ok (.istore_n 3, 1) := by decide +kernel
theorem dX2_takeBack_9 : decode cX2_takeBack 9 = .ok (.iload_n 3, 1) := by decide +kernel
theorem dX2_takeBack_10 : decode cX2_takeBack 10 = .ok (.bipush 8, 2) := by decide +kernel
theorem dX2_takeBack_12 : decode cX2_takeBack 12 = .ok (.if_icmp .ge 23, 3) := by decide +kernel
theorem dX2_takeBack_15 : decode cX2_takeBack 15 = .ok (.aload_n 0, 1) := by decide +kernel
theorem dX2_takeBack_16 : decode cX2_takeBack 16 = .ok (.getfield 11, 3) := by decide +kernel
theorem dX2_takeBack_19 : decode cX2_takeBack 19 = .ok (.iload_n 3, 1) := by decide +kernel
theorem dX2_takeBack_20 : decode cX2_takeBack 20 = .ok (.iconst 1, 1) := by decide +kernel
theorem dX2_takeBack_21 : decode cX2_takeBack 21 = .ok (.isub, 1) := by decide +kernel
theorem dX2_takeBack_22 : decode cX2_takeBack 22 = .ok (.aload_n 0, 1) := by decide +kernel
theorem dX2_takeBack_23 : decode cX2_takeBack 23 = .ok (.getfield 11, 3) := by decide +kernel
theorem dX2_takeBack_26 : decode cX2_takeBack 26 = .ok (.iload_n 3, 1) := by decide +kernel
theorem dX2_takeBack_27 : decode cX2_takeBack 27 = .ok (.aaload, 1) := by decide +kernel
theorem dX2_takeBack_28 : decode cX2_takeBack 28 = .ok (.aastore, 1) := by decide +kernel
theorem dX2_takeBack_29 : decode cX2_takeBack 29 = .ok (.iinc 3 1, 3) := by decide +kernel
theorem dX2_takeBack_32 : decode cX2_takeBack 32 = .ok (.goto (-23), 3) := by decide +kernel
theorem dX2_takeBack_35 : decode cX2_takeBack 35 = .ok (.aload_n 0, 1) := by decide +kernel
theorem dX2_takeBack_36 : decode cX2_takeBack 36 = .ok (.getfield 11, 3) := by decide +kernel
theorem dX2_takeBack_39 : decode cX2_takeBack 39 = .ok (.bipush 7, 2) := by decide +kernel
theorem dX2_takeBack_41 : decode cX2_takeBack 41 = .ok (.aload_n 2, 1) := by decide +kernel
theorem dX2_takeBack_42 : decode cX2_takeBack 42 = .ok (.aastore, 1) := by decide +kernel
theorem dX2_takeBack_43 : decode cX2_takeBack 43 = .ok (.aload_n 1, 1) := by decide +kernel
theorem dX2_takeBack_44 : decode cX2_takeBack 44 = .ok (.aload_n 2, 1) := by decide +kernel
theorem dX2_takeBack_45 : decode cX2_takeBack 45 = .ok (.invokevirtual 18, 3) := by decide +kernel
theorem dX2_takeBack_48 : decode cX2_takeBack 48 = .ok (.aload_n 0, 1) := by decide +kernel
theorem dX2_takeBack_49 : decode cX2_takeBack 49 = .ok (.iconst 0, 1) := by decide +kernel
theorem dX2_takeBack_50 : decode cX2_takeBack 50 = .ok (.aload_n 0, 1) := by decide +kernel
theorem dX2_takeBack_51 : decode cX2_takeBack 51 = .ok (.getfield 22, 3) := by decide +kernel
theorem dX2_takeBack_54 : decode cX2_takeBack 54 = .ok (.iconst 1, 1) := by decide +kernel
theorem dX2_takeBack_55 : decode cX2_takeBack 55 = .ok (.isub, 1) := by decide +kernel
theorem dX2_takeBack_56 : decode cX2_takeBack 56 = .ok (.invokestatic 32, 3) := by decide +kernel
theorem dX2_takeBack_59 : decode cX2_takeBack 59 = .ok (.putfield 22, 3) := by decide +kernel
theorem dX2_takeBack_62 : decode cX2_takeBack 62 = .ok (.return_, 1) := by decide +kernel
theorem dX2_forget_0 : decode cX2_forget 0 = .ok (.aload_n 0, 1) := by decide +kernel
theorem dX2_forget_1 : decode cX2_forget 1 = .ok (.iconst 0, 1) := by decide +kernel
theorem dX2_forget_2 : decode cX2_forget 2 = .ok (.putfield 22, 3) := by decide +kernel
theorem dX2_forget_5 : decode cX2_forget 5 = .ok (.return_, 1) := by decide +kernel
theorem dX3_init_0 : decode cX3_init 0 = .ok (.aload_n 0, 1) := by decide +kernel
theorem dX3_init_1 : decode cX3_init 1 = .ok (.invokespecial 3, 3) := by decide +kernel
theorem dX3_init_4 : decode cX3_init 4 = .ok (.aload_n 0, 1) := by decide +kernel
theorem dX3_init_5 : decode cX3_init 5 = .ok (.bipush 12, 2) := by decide +kernel
theorem dX3_init_7 : decode cX3_init 7 = .ok (.anewarray 9, 3) := by decide +kernel
theorem dX3_init_10 : decode cX3_init 10 = .ok (.putfield 11, 3) := by decide +kernel
theorem dX3_init_13 : decode cX3_init 13 = .ok (.aload_n 0, 1) := by decide +kernel
theorem dX3_init_14 : decode cX3_init 14 = .ok (.new 9, 3) := by decide +kernel
theorem dX3_init_17 : decode cX3_init 17 = .ok (.dup, 1) := by decide +kernel
theorem dX3_init_18 : decode cX3_init 18 = .ok (.invokespecial 17, 3) := by decide +kernel
theorem dX3_init_21 : decode cX3_init 21 = .ok (.putfield 18, 3) := by decide +kernel
theorem dX3_init_24 : decode cX3_init 24 = .ok (.iconst 0, 1) := by decide +kernel
theorem dX3_init_25 : decode cX3_init 25 = .ok (.istore_n 1, 1) := by decide +kernel
theorem dX3_init_26 : decode cX3_init 26 = .ok (.iload_n 1, 1) := by decide +kernel
theorem dX3_init_27 : decode cX3_init 27 = .ok (.aload_n 0, 1) := by decide +kernel
theorem dX3_init_28 : decode cX3_init 28 = .ok (.getfield 11, 3) := by decide +kernel
theorem dX3_init_31 : decode cX3_init 31 = .ok (.arraylength, 1) := by decide +kernel
theorem dX3_init_32 : decode cX3_init 32 = .ok (.if_icmp .ge 22, 3) := by decide +kernel
theorem dX3_init_35 : decode cX3_init 35 = .ok (.aload_n 0, 1) := by decide +kernel
theorem dX3_init_36 : decode cX3_init 36 = .ok (.getfield 11, 3) := by decide +kernel
theorem dX3_init_39 : decode cX3_init 39 = .ok (.iload_n 1, 1) := by decide +kernel
theorem dX3_init_40 : decode cX3_init 40 = .ok (.new 9, 3) := by decide +kernel
theorem dX3_init_43 : decode cX3_init 43 = .ok (.dup, 1) := by decide +kernel
theorem dX3_init_44 : decode cX3_init 44 = .ok (.invokespecial 17, 3) := by decide +kernel
theorem dX3_init_47 : decode cX3_init 47 = .ok (.aastore, 1) := by decide +kernel
theorem dX3_init_48 : decode cX3_init 48 = .ok (.iinc 1 1, 3) := by decide +kernel
theorem dX3_init_51 : decode cX3_init 51 = .ok (.goto (-25), 3) := by decide +kernel
theorem dX3_init_54 : decode cX3_init 54 = .ok (.return_, 1) := by decide +kernel
theorem dX3_copyFrom_0 : decode cX3_copyFrom 0 = .ok (.aload_n 0, 1) := by decide +kernel
theorem dX3_copyFrom_1 : decode cX3_copyFrom 1 = .ok (.aload_n 1, 1) := by decide +kernel
theorem dX3_copyFrom_2 : decode cX3_copyFrom 2 = .ok (.getfield 22, 3) := by decide +kernel
theorem dX3_copyFrom_5 : decode cX3_copyFrom 5 = .ok (.putfield 22, 3) := by decide +kernel
theorem dX3_copyFrom_8 : decode cX3_copyFrom 8 = .ok (.aload_n 0, 1) := by decide +kernel
theorem dX3_copyFrom_9 : decode cX3_copyFrom 9 = .ok (.aload_n 1, 1) := by decide +kernel
theorem dX3_copyFrom_10 : decode cX3_copyFrom 10 = .ok (.getfield 26, 3) := by decide +kernel
theorem dX3_copyFrom_13 : decode cX3_copyFrom 13 = .ok (.putfield 26, 3) := by decide +kernel
theorem dX3_copyFrom_16 : decode cX3_copyFrom 16 = .ok (.aload_n 0, 1) := by decide +kernel
theorem dX3_copyFrom_17 : decode cX3_copyFrom 17 = .ok (.aload_n 1, 1) := by decide +kernel
theorem dX3_copyFrom_18 : decode cX3_copyFrom 18 = .ok (.getfield 29, 3) := by decide +kernel
theorem dX3_copyFrom_21 : decode cX3_copyFrom 21 = .ok (.putfield 29, 3) := by decide +kernel
theorem dX3_copyFrom_24 : decode cX3_copyFrom 24 = .ok (.aload_n 0, 1) := by decide +kernel
theorem dX3_copyFrom_25 : decode cX3_copyFrom 25 = .ok (.aload_n 1, 1) := by decide +kernel
theorem dX3_copyFrom_26 : decode cX3_copyFrom 26 = .ok (.getfield 32, 3) := by decide +kernel
theorem dX3_copyFrom_29 : decode cX3_copyFrom 29 = .ok (.putfield 32, 3) := by decide +kernel
theorem dX3_copyFrom_32 : decode cX3_copyFrom 32 = .ok (.aload_n 0, 1) := by decide +kernel
theorem dX3_copyFrom_33 : decode cX3_copyFrom 33 = .ok (.aload_n 1, 1) := by decide +kernel
theorem dX3_copyFrom_34 : decode cX3_copyFrom 34 = .ok (.getfield 35, 3) := by decide +kernel
theorem dX3_copyFrom_37 : decode cX3_copyFrom 37 = .ok (.putfield 35, 3) := by decide +kernel
theorem dX3_copyFrom_40 : decode cX3_copyFrom 40 = .ok (.aload_n 0, 1) := by decide +kernel
theorem dX3_copyFrom_41 : decode cX3_copyFrom 41 = .ok (.aload_n 1, 1) := by decide +kernel
theorem dX3_copyFrom_42 : decode cX3_copyFrom 42 = .ok (.getfield 38, 3) := by decide +kernel
theorem dX3_copyFrom_45 : decode cX3_copyFrom 45 = .ok (.putfield 38, 3) := by decide +kernel
theorem dX3_copyFrom_48 : decode cX3_copyFrom 48 = .ok (.aload_n 0, 1) := by decide +kernel
theorem dX3_copyFrom_49 : decode cX3_copyFrom 49 = .ok (.aload_n 1, 1) := by decide +kernel
theorem dX3_copyFrom_50 : decode cX3_copyFrom 50 = .ok (.getfield 41, 3) := by decide +kernel
theorem dX3_copyFrom_53 : decode cX3_copyFrom 53 = .ok (.putfield 41, 3) := by decide +kernel
theorem dX3_copyFrom_56 : decode cX3_copyFrom 56 = .ok (.aload_n 0, 1) := by decide +kernel
theorem dX3_copyFrom_57 : decode cX3_copyFrom 57 = .ok (.aload_n 1, 1) := by decide +kernel
theorem dX3_copyFrom_58 : decode cX3_copyFrom 58 = .ok (.getfield 44, 3) := by decide +kernel
theorem dX3_copyFrom_61 : decode cX3_copyFrom 61 = .ok (.putfield 44, 3) := by decide +kernel
theorem dX3_copyFrom_64 : decode cX3_copyFrom 64 = .ok (.iconst 0, 1) := by decide +kernel
theorem dX3_copyFrom_65 : decode cX3_copyFrom 65 = .ok (.istore_n 2, 1) := by decide +kernel
theorem dX3_copyFrom_66 : decode cX3_copyFrom 66 = .ok (.iload_n 2, 1) := by decide +kernel
theorem dX3_copyFrom_67 : decode cX3_copyFrom 67 = .ok (.aload_n 0, 1) := by decide +kernel
theorem dX3_copyFrom_68 : decode cX3_copyFrom 68 = .ok (.getfield 22, 3) := by decide +kernel
theorem dX3_copyFrom_71 : decode cX3_copyFrom 71 = .ok (.if_icmp .ge 22, 3) := by decide +kernel
theorem dX3_copyFrom_74 : decode cX3_copyFrom 74 = .ok (.aload_n 0, 1) := by decide +kernel
theorem dX3_copyFrom_75 : decode cX3_copyFrom 75 = .ok (.iload_n 2, 1) := by decide +kernel
theorem dX3_copyFrom_76 : decode cX3_copyFrom 76 = .ok (.invokevirtual 47, 3) := by decide +kernel
theorem dX3_copyFrom_79 : decode cX3_copyFrom 79 = .ok (.aload_n 1, 1) := by decide +kernel
theorem dX3_copyFrom_80 : decode cX3_copyFrom 80 = .ok (.iload_n 2, 1) := by decide +kernel
theorem dX3_copyFrom_81 : decode cX3_copyFrom 81 = .ok (.invokevirtual 47, 3) := by decide +kernel
theorem dX3_copyFrom_84 : decode cX3_copyFrom 84 = .ok (.invokevirtual 51, 3) := by decide +kernel
theorem dX3_copyFrom_87 : decode cX3_copyFrom 87 = .ok (.iinc 2 1, 3) := by decide +kernel
theorem dX3_copyFrom_90 : decode cX3_copyFrom 90 = .ok (.goto (-24), 3) := by decide +kernel
theorem dX3_copyFrom_93 : decode cX3_copyFrom 93 = .ok (.return_, 1) := by decide +kernel
theorem dX3_has_0 : decode cX3_has 0 = .ok (.iload_n 1, 1) := by decide +kernel
theorem dX3_has_1 : decode cX3_has 1 = .ok (.ifCond .lt 15, 3) := by decide +kernel
theorem dX3_has_4 : decode cX3_has 4 = .ok (.iload_n 1, 1) := by decide +kernel
theorem dX3_has_5 : decode cX3_has 5 = .ok (.aload_n 0, 1) := by decide +kernel
theorem dX3_has_6 : decode cX3_has 6 = .ok (.getfield 22, 3) := by decide +kernel
theorem dX3_has_9 : decode cX3_has 9 = .ok (.if_icmp .ge 7, 3) := by decide +kernel
theorem dX3_has_12 : decode cX3_has 12 = .ok (.iconst 1, 1) := by decide +kernel
theorem dX3_has_13 : decode cX3_has 13 = .ok (.goto 4, 3) := by decide +kernel
theorem dX3_has_16 : decode cX3_has 16 = .ok (.iconst 0, 1) := by decide +kernel
theorem dX3_has_17 : decode cX3_has 17 = .ok (.ireturn, 1) := by decide +kernel
theorem dX3_fishAt_0 : decode cX3_fishAt 0 = .ok (.iload_n 1, 1) := by decide +kernel
theorem dX3_fishAt_1 : decode cX3_fishAt 1 = .ok (.ifCond .lt 21, 3) := by decide +kernel
theorem dX3_fishAt_4 : decode cX3_fishAt 4 = .ok (.iload_n 1, 1) := by decide +kernel
theorem dX3_fishAt_5 : decode cX3_fishAt 5 = .ok (.aload_n 0, 1) := by decide +kernel
theorem dX3_fishAt_6 : decode cX3_fishAt 6 = .ok (.getfield 11, 3) := by decide +kernel
theorem dX3_fishAt_9 : decode cX3_fishAt 9 = .ok (.arraylength, 1) := by decide +kernel
theorem dX3_fishAt_10 : decode cX3_fishAt 10 = .ok (.if_icmp .ge 12, 3) := by decide +kernel
theorem dX3_fishAt_13 : decode cX3_fishAt 13 = .ok (.aload_n 0, 1) := by decide +kernel
theorem dX3_fishAt_14 : decode cX3_fishAt 14 = .ok (.getfield 11, 3) := by decide +kernel
theorem dX3_fishAt_17 : decode cX3_fishAt 17 = .ok (.iload_n 1, 1) := by decide +kernel
theorem dX3_fishAt_18 : decode cX3_fishAt 18 = .ok (.aaload, 1) := by decide +kernel
theorem dX3_fishAt_19 : decode cX3_fishAt 19 = .ok (.goto 7, 3) := by decide +kernel
theorem dX3_fishAt_22 : decode cX3_fishAt 22 = .ok (.aload_n 0, 1) := by decide +kernel
theorem dX3_fishAt_23 : decode cX3_fishAt 23 = .ok (.getfield 18, 3) := by decide +kernel
theorem dX3_fishAt_26 : decode cX3_fishAt 26 = .ok (.areturn, 1) := by decide +kernel
theorem dX3_addFish_0 : decode cX3_addFish 0 = .ok (.aload_n 0, 1) := by decide +kernel
theorem dX3_addFish_1 : decode cX3_addFish 1 = .ok (.aload_n 0, 1) := by decide +kernel
theorem dX3_addFish_2 : decode cX3_addFish 2 = .ok (.getfield 22, 3) := by decide +kernel
theorem dX3_addFish_5 : decode cX3_addFish 5 = .ok (.invokevirtual 47, 3) := by decide +kernel
theorem dX3_addFish_8 : decode cX3_addFish 8 = .ok (.iload_n 1, 1) := by decide +kernel
theorem dX3_addFish_9 : decode cX3_addFish 9 = .ok (.invokevirtual 55, 3) := by decide +kernel
theorem dX3_addFish_12 : decode cX3_addFish 12 = .ok (.aload_n 0, 1) := by decide +kernel
theorem dX3_addFish_13 : decode cX3_addFish 13 = .ok (.dup, 1) := by decide +kernel
theorem dX3_addFish_14 : decode cX3_addFish 14 = .ok (.getfield 22, 3) := by decide +kernel
theorem dX3_addFish_17 : decode cX3_addFish 17 = .ok (.iconst 1, 1) := by decide +kernel
theorem dX3_addFish_18 : decode cX3_addFish 18 = .ok (.iadd, 1) := by decide +kernel
theorem dX3_addFish_19 : decode cX3_addFish 19 = .ok (.putfield 22, 3) := by decide +kernel
theorem dX3_addFish_22 : decode cX3_addFish 22 = .ok (.return_, 1) := by decide +kernel
theorem dX3_removeFish_0 : decode cX3_removeFish 0 = .ok (.aload_n 0, 1) := by decide +kernel
theorem dX3_removeFish_1 : decode cX3_removeFish 1 = .ok (.dup, 1) := by decide +kernel
theorem dX3_removeFish_2 : decode cX3_removeFish 2 = .ok (.getfield 22, 3) := by decide +kernel
theorem dX3_removeFish_5 : decode cX3_removeFish 5 = .ok (.iconst 1, 1) := by decide +kernel
theorem dX3_removeFish_6 : decode cX3_removeFish 6 = .ok (.isub, 1) := by decide +kernel
theorem dX3_removeFish_7 : decode cX3_removeFish 7 = .ok (.putfield 22, 3) := by decide +kernel
theorem dX3_removeFish_10 : decode cX3_removeFish 10 = .ok (.iload_n 1, 1) := by decide +kernel
theorem dX3_removeFish_11 : decode cX3_removeFish 11 = .ok (.istore_n 2, 1) := by decide +kernel
theorem dX3_removeFish_12 : decode cX3_removeFish 12 = .ok (.iload_n 2, 1) := by decide +kernel
theorem dX3_removeFish_13 : decode cX3_removeFish 13 = .ok (.aload_n 0, 1) := by decide +kernel
theorem dX3_removeFish_14 : decode cX3_removeFish 14 = .ok (.getfield 22, 3) := by decide +kernel
theorem dX3_removeFish_17 : decode cX3_removeFish 17 = .ok (.if_icmp .ge 24, 3) := by decide +kernel
theorem dX3_removeFish_20 : decode cX3_removeFish 20 = .ok (.aload_n 0, 1) := by decide +kernel
theorem dX3_removeFish_21 : decode cX3_removeFish 21 = .ok (.iload_n 2, 1) := by decide +kernel
theorem dX3_removeFish_22 : decode cX3_removeFish 22 = .ok (.invokevirtual 47, 3) := by decide +kernel
theorem dX3_removeFish_25 : decode cX3_removeFish 25 = .ok (.aload_n 0, 1) := by decide +kernel
theorem dX3_removeFish_26 : decode cX3_removeFish 26 = .ok (.iload_n 2, 1) := by decide +kernel
theorem dX3_removeFish_27 : decode cX3_removeFish 27 = .ok (.iconst 1, 1) := by decide +kernel
theorem dX3_removeFish_28 : decode cX3_removeFish 28 = .ok (.iadd, 1) := by decide +kernel
theorem dX3_removeFish_29 : decode cX3_removeFish 29 = .ok (.invokevirtual 47, 3) := by decide +kernel
theorem dX3_removeFish_32 : decode cX3_removeFish 32 = .ok (.invokevirtual 51, 3) := by decide +kernel
theorem dX3_removeFish_35 : decode cX3_removeFish 35 = .ok (.iinc 2 1, 3) := by decide +kernel
theorem dX3_removeFish_38 : decode cX3_removeFish 38 = .ok (.goto (-26), 3) := by decide +kernel
theorem dX3_removeFish_41 : decode cX3_removeFish 41 = .ok (.return_, 1) := by decide +kernel
theorem dX3_countIn_0 : decode cX3_countIn 0 = .ok (.iconst 0, 1) := by decide +kernel
theorem dX3_countIn_1 : decode cX3_countIn 1 = .ok (.istore_n 2, 1) := by decide +kernel
theorem dX3_countIn_2 : decode cX3_countIn 2 = .ok (.iconst 0, 1) := by decide +kernel
theorem dX3_countIn_3 : decode cX3_countIn 3 = .ok (.istore_n 3, 1) := by decide +kernel
theorem dX3_countIn_4 : decode cX3_countIn 4 = .ok (.iload_n 3, 1) := by decide +kernel
theorem dX3_countIn_5 : decode cX3_countIn 5 = .ok (.aload_n 0, 1) := by decide +kernel
theorem dX3_countIn_6 : decode cX3_countIn 6 = .ok (.getfield 22, 3) := by decide +kernel
theorem dX3_countIn_9 : decode cX3_countIn 9 = .ok (.if_icmp .ge 29, 3) := by decide +kernel
theorem dX3_countIn_12 : decode cX3_countIn 12 = .ok (.iload_n 2, 1) := by decide +kernel
theorem dX3_countIn_13 : decode cX3_countIn 13 = .ok (.aload_n 0, 1) := by decide +kernel
theorem dX3_countIn_14 : decode cX3_countIn 14 = .ok (.iload_n 3, 1) := by decide +kernel
theorem dX3_countIn_15 : decode cX3_countIn 15 = .ok (.invokevirtual 47, 3) := by decide +kernel
theorem dX3_countIn_18 : decode cX3_countIn 18 = .ok (.getfield 59, 3) := by decide +kernel
theorem dX3_countIn_21 : decode cX3_countIn 21 = .ok (.iload_n 1, 1) := by decide +kernel
theorem dX3_countIn_22 : decode cX3_countIn 22 = .ok (.if_icmp .ne 7, 3) := by decide +kernel
theorem dX3_countIn_25 : decode cX3_countIn 25 = .ok (.iconst 1, 1) := by decide +kernel
theorem dX3_countIn_26 : decode cX3_countIn 26 = .ok (.goto 4, 3) := by decide +kernel
theorem dX3_countIn_29 : decode cX3_countIn 29 = .ok (.iconst 0, 1) := by decide +kernel
theorem dX3_countIn_30 : decode cX3_countIn 30 = .ok (.iadd, 1) := by decide +kernel
theorem dX3_countIn_31 : decode cX3_countIn 31 = .ok (.istore_n 2, 1) := by decide +kernel
theorem dX3_countIn_32 : decode cX3_countIn 32 = .ok (.iinc 3 1, 3) := by decide +kernel
theorem dX3_countIn_35 : decode cX3_countIn 35 = .ok (.goto (-31), 3) := by decide +kernel
theorem dX3_countIn_38 : decode cX3_countIn 38 = .ok (.iload_n 2, 1) := by decide +kernel
theorem dX3_countIn_39 : decode cX3_countIn 39 = .ok (.ireturn, 1) := by decide +kernel
theorem dX3_countOnRack_0 : decode cX3_countOnRack 0 = .ok (.iconst 0, 1) := by decide +kernel
theorem dX3_countOnRack_1 : decode cX3_countOnRack 1 = .ok (.istore_n 2, 1) := by decide +kernel
theorem dX3_countOnRack_2 : decode cX3_countOnRack 2 = .ok (.iconst 0, 1) := by decide +kernel
theorem dX3_countOnRack_3 : decode cX3_countOnRack 3 = .ok (.istore_n 3, 1) := by decide +kernel
theorem dX3_countOnRack_4 : decode cX3_countOnRack 4 = .ok (.iload_n 3, 1) := by decide +kernel
theorem dX3_countOnRack_5 : decode cX3_countOnRack 5 = .ok (.aload_n 0, 1) := by decide +kernel
theorem dX3_countOnRack_6 : decode cX3_countOnRack 6 = .ok (.getfield 22, 3) := by decide +kernel
theorem dX3_countOnRack_9 : decode cX3_countOnRack 9 = .ok (.if_icmp .ge 29, 3) := by decide +kernel
theorem dX3_countOnRack_12 : decode cX3_countOnRack 12 = .ok (.iload_n 2, 1) := by decide +kernel
theorem dX3_countOnRack_13 : decode cX3_countOnRack 13 = .ok (.aload_n 0, 1) := by decide +kernel
theorem dX3_countOnRack_14 : decode cX3_countOnRack 14 = .ok (.iload_n 3, 1) := by decide +kernel
theorem dX3_countOnRack_15 : decode cX3_countOnRack 15 = .ok (.invokevirtual 47, 3) := by decide +kernel
theorem dX3_countOnRack_18 : decode cX3_countOnRack 18 = .ok (.getfield 62, 3) := by decide +kernel
theorem dX3_countOnRack_21 : decode cX3_countOnRack 21 = .ok (.iload_n 1, 1) := by decide +kernel
theorem dX3_countOnRack_22 : decode cX3_countOnRack 22 = .ok (.if_icmp .ne 7, 3) := by decide +kernel
theorem dX3_countOnRack_25 : decode cX3_countOnRack 25 = .ok (.iconst 1, 1) := by decide +kernel
theorem dX3_countOnRack_26 : decode cX3_countOnRack 26 = .ok (.goto 4, 3) := by decide +kernel
theorem dX3_countOnRack_29 : decode cX3_countOnRack 29 = .ok (.iconst 0, 1) := by decide +kernel
theorem dX3_countOnRack_30 : decode cX3_countOnRack 30 = .ok (.iadd, 1) := by decide +kernel
theorem dX3_countOnRack_31 : decode cX3_countOnRack 31 = .ok (.istore_n 2, 1) := by decide +kernel
theorem dX3_countOnRack_32 : decode cX3_countOnRack 32 = .ok (.iinc 3 1, 3) := by decide +kernel
theorem dX3_countOnRack_35 : decode cX3_countOnRack 35 = .ok (.goto (-31), 3) := by decide +kernel
theorem dX3_countOnRack_38 : decode cX3_countOnRack 38 = .ok (.iload_n 2, 1) := by decide +kernel
theorem dX3_countOnRack_39 : decode cX3_countOnRack 39 = .ok (.ireturn, 1) := by decide +kernel
theorem dX3_burntCount_0 : decode cX3_burntCount 0 = .ok (.iconst 0, 1) := by decide +kernel
theorem dX3_burntCount_1 : decode cX3_burntCount 1 = .ok (.istore_n 1, 1) := by decide +kernel
theorem dX3_burntCount_2 : decode cX3_burntCount 2 = .ok (.iconst 0, 1) := by decide +kernel
theorem dX3_burntCount_3 : decode cX3_burntCount 3 = .ok (.istore_n 2, 1) := by decide +kernel
theorem dX3_burntCount_4 : decode cX3_burntCount 4 = .ok (.iload_n 2, 1) := by decide +kernel
theorem dX3_burntCount_5 : decode cX3_burntCount 5 = .ok (.aload_n 0, 1) := by decide +kernel
theorem dX3_burntCount_6 : decode cX3_burntCount 6 = .ok (.getfield 22, 3) := by decide +kernel
theorem dX3_burntCount_9 : decode cX3_burntCount 9 = .ok (.if_icmp .ge 28, 3) := by decide +kernel
theorem dX3_burntCount_12 : decode cX3_burntCount 12 = .ok (.iload_n 1, 1) := by decide +kernel
theorem dX3_burntCount_13 : decode cX3_burntCount 13 = .ok (.aload_n 0, 1) := by decide +kernel
theorem dX3_burntCount_14 : decode cX3_burntCount 14 = .ok (.iload_n 2, 1) := by decide +kernel
theorem dX3_burntCount_15 : decode cX3_burntCount 15 = .ok (.invokevirtual 47, 3) := by decide +kernel
theorem dX3_burntCount_18 : decode cX3_burntCount 18 = .ok (.invokevirtual 65, 3) := by decide +kernel
theorem dX3_burntCount_21 : decode cX3_burntCount 21 = .ok (.ifCond .eq 7, 3) := by decide +kernel
theorem dX3_burntCount_24 : decode cX3_burntCount 24 = .ok (.iconst 1, 1) := by decide +kernel
theorem dX3_burntCount_25 : decode cX3_burntCount 25 = .ok (.goto 4, 3) := by decide +kernel
theorem dX3_burntCount_28 : decode cX3_burntCount 28 = .ok (.iconst 0, 1) := by decide +kernel
theorem dX3_burntCount_29 : decode cX3_burntCount 29 = .ok (.iadd, 1) := by decide +kernel
theorem dX3_burntCount_30 : decode cX3_burntCount 30 = .ok (.istore_n 1, 1) := by decide +kernel
theorem dX3_burntCount_31 : decode cX3_burntCount 31 = .ok (.iinc 2 1, 3) := by decide +kernel
theorem dX3_burntCount_34 : decode cX3_burntCount 34 = .ok (.goto (-30), 3) := by decide +kernel
theorem dX3_burntCount_37 : decode cX3_burntCount 37 = .ok (.iload_n 1, 1) := by decide +kernel
theorem dX3_burntCount_38 : decode cX3_burntCount 38 = .ok (.ireturn, 1) := by decide +kernel
theorem dX3_allSmoke_0 : decode cX3_allSmoke 0 = .ok (.iconst 0, 1) := by decide +kernel
theorem dX3_allSmoke_1 : decode cX3_allSmoke 1 = .ok (.istore_n 1, 1) := by decide +kernel
theorem dX3_allSmoke_2 : decode cX3_allSmoke 2 = .ok (.iconst 0, 1) := by decide +kernel
theorem dX3_allSmoke_3 : decode cX3_allSmoke 3 = .ok (.istore_n 2, 1) := by decide +kernel
theorem dX3_allSmoke_4 : decode cX3_allSmoke 4 = .ok (.iload_n 2, 1) := by decide +kernel
theorem dX3_allSmoke_5 : decode cX3_allSmoke 5 = .ok (.aload_n 0, 1) := by decide +kernel
theorem dX3_allSmoke_6 : decode cX3_allSmoke 6 = .ok (.getfield 22, 3) := by decide +kernel
theorem dX3_allSmoke_9 : decode cX3_allSmoke 9 = .ok (.if_icmp .ge 33, 3) := by decide +kernel
theorem dX3_allSmoke_12 : decode cX3_allSmoke 12 = .ok (.aload_n 0, 1) := by decide +kernel
theorem dX3_allSmoke_13 : decode cX3_allSmoke 13 = .ok (.iload_n 2, 1) := by decide +kernel
theorem dX3_allSmoke_14 : decode cX3_allSmoke 14 = .ok (.invokevirtual 47, 3) := by decide +kernel
theorem dX3_allSmoke_17 : decode cX3_allSmoke 17 = .ok (.astore_n 3, 1) := by decide +kernel
theorem dX3_allSmoke_18 : decode cX3_allSmoke 18 = .ok (.iload_n 1, 1) := by decide +kernel
theorem dX3_allSmoke_19 : decode cX3_allSmoke 19 = .ok (.aload_n 3, 1) := by decide +kernel
theorem dX3_allSmoke_20 : decode cX3_allSmoke 20 = .ok (.getfield 69, 3) := by decide +kernel
theorem dX3_allSmoke_23 : decode cX3_allSmoke 23 = .ok (.getfield 73, 3) := by decide +kernel
theorem dX3_allSmoke_26 : decode cX3_allSmoke 26 = .ok (.aload_n 3, 1) := by decide +kernel
theorem dX3_allSmoke_27 : decode cX3_allSmoke 27 = .ok (.getfield 78, 3) := by decide +kernel
theorem dX3_allSmoke_30 : decode cX3_allSmoke 30 = .ok (.getfield 73, 3) := by decide +kernel
theorem dX3_allSmoke_33 : decode cX3_allSmoke 33 = .ok (.iadd, 1) := by decide +kernel
theorem dX3_allSmoke_34 : decode cX3_allSmoke 34 = .ok (.iadd, 1) := by decide +kernel
theorem dX3_allSmoke_35 : decode cX3_allSmoke 35 = .ok (.istore_n 1, 1) := by decide +kernel
theorem dX3_allSmoke_36 : decode cX3_allSmoke 36 = .ok (.iinc 2 1, 3) := by decide +kernel
theorem dX3_allSmoke_39 : decode cX3_allSmoke 39 = .ok (.goto (-35), 3) := by decide +kernel
theorem dX3_allSmoke_42 : decode cX3_allSmoke 42 = .ok (.iload_n 1, 1) := by decide +kernel
theorem dX3_allSmoke_43 : decode cX3_allSmoke 43 = .ok (.ireturn, 1) := by decide +kernel
theorem dX3_saltInBrine_0 : decode cX3_saltInBrine 0 = .ok (.iconst 0, 1) := by decide +kernel
theorem dX3_saltInBrine_1 : decode cX3_saltInBrine 1 = .ok (.istore_n 1, 1) := by decide +kernel
theorem dX3_saltInBrine_2 : decode cX3_saltInBrine 2 = .ok (.iconst 0, 1) := by decide +kernel
theorem dX3_saltInBrine_3 : decode cX3_saltInBrine 3 = .ok (.istore_n 2, 1) := by decide +kernel
theorem dX3_saltInBrine_4 : decode cX3_saltInBrine 4 = .ok (.iload_n 2, 1) := by decide +kernel
theorem dX3_saltInBrine_5 : decode cX3_saltInBrine 5 = .ok (.aload_n 0, 1) := by decide +kernel
theorem dX3_saltInBrine_6 : decode cX3_saltInBrine 6 = .ok (.getfield 22, 3) := by decide +kernel
theorem dX3_saltInBrine_9 : decode cX3_saltInBrine 9 = .ok (.if_icmp .ge 34, 3) := by decide +kernel
theorem dX3_saltInBrine_12 : decode cX3_saltInBrine 12 = .ok (.aload_n 0, 1) := by decide +kernel
theorem dX3_saltInBrine_13 : decode cX3_saltInBrine 13 = .ok (.iload_n 2, 1) := by decide +kernel
theorem dX3_saltInBrine_14 : decode cX3_saltInBrine 14 = .ok (.invokevirtual 47, 3) := by decide +kernel
theorem dX3_saltInBrine_17 : decode cX3_saltInBrine 17 = .ok (.astore_n 3, 1) := by decide +kernel
theorem dX3_saltInBrine_18 : decode cX3_saltInBrine 18 = .ok (.iload_n 1, 1) := by decide +kernel
theorem dX3_saltInBrine_19 : decode cX3_saltInBrine 19 = .ok (.aload_n 3, 1) := by decide +kernel
theorem dX3_saltInBrine_20 : decode cX3_saltInBrine 20 = .ok (.getfield 59, 3) := by decide +kernel
theorem dX3_saltInBrine_23 : decode cX3_saltInBrine 23 = .ok (.iconst 1, 1) := by decide +kernel
theorem dX3_saltInBrine_24 : decode cX3_saltInBrine 24 = .ok (.if_icmp .ne 10, 3) := by decide +kernel
theorem dX3_saltInBrine_27 : decode cX3_saltInBrine 27 = .ok (.aload_n 3, 1) := by decide +kernel
theorem dX3_saltInBrine_28 : decode cX3_saltInBrine 28 = .ok (.getfield 81, 3) := by decide +kernel
theorem dX3_saltInBrine_31 : decode cX3_saltInBrine 31 = .ok (.goto 4, 3) := by decide +kernel
theorem dX3_saltInBrine_34 : decode cX3_saltInBrine 34 = .ok (.iconst 0, 1) := by decide +kernel
theorem dX3_saltInBrine_35 : decode cX3_saltInBrine 35 = .ok (.iadd, 1) := by decide +kernel
theorem dX3_saltInBrine_36 : decode cX3_saltInBrine 36 = .ok (.istore_n 1, 1) := by decide +kernel
theorem dX3_saltInBrine_37 : decode cX3_saltInBrine 37 = .ok (.iinc 2 1, 3) := by decide +kernel
theorem dX3_saltInBrine_40 : decode cX3_saltInBrine 40 = .ok (.goto (-36), 3) := by decide +kernel
theorem dX3_saltInBrine_43 : decode cX3_saltInBrine 43 = .ok (.iload_n 1, 1) := by decide +kernel
theorem dX3_saltInBrine_44 : decode cX3_saltInBrine 44 = .ok (.ireturn, 1) := by decide +kernel
theorem dX3_fishOn_0 : decode cX3_fishOn 0 = .ok (.iconst 0, 1) := by decide +kernel
theorem dX3_fishOn_1 : decode cX3_fishOn 1 = .ok (.istore_n 3, 1) := by decide +kernel
theorem dX3_fishOn_2 : decode cX3_fishOn 2 = .ok (.iload_n 3, 1) := by decide +kernel
theorem dX3_fishOn_3 : decode cX3_fishOn 3 = .ok (.aload_n 0, 1) := by decide +kernel
theorem dX3_fishOn_4 : decode cX3_fishOn 4 = .ok (.getfield 22, 3) := by decide +kernel
theorem dX3_fishOn_7 : decode cX3_fishOn 7 = .ok (.if_icmp .ge 36, 3) := by decide +kernel
theorem dX3_fishOn_10 : decode cX3_fishOn 10 = .ok (.aload_n 0, 1) := by decide +kernel
theorem dX3_fishOn_11 : decode cX3_fishOn 11 = .ok (.iload_n 3, 1) := by decide +kernel
theorem dX3_fishOn_12 : decode cX3_fishOn 12 = .ok (.invokevirtual 47, 3) := by decide +kernel
theorem dX3_fishOn_15 : decode cX3_fishOn 15 = .ok (.astore 4, 2) := by decide +kernel
theorem dX3_fishOn_17 : decode cX3_fishOn 17 = .ok (.aload 4, 2) := by decide +kernel
theorem dX3_fishOn_19 : decode cX3_fishOn 19 = .ok (.getfield 62, 3) := by decide +kernel
theorem dX3_fishOn_22 : decode cX3_fishOn 22 = .ok (.iload_n 1, 1) := by decide +kernel
theorem dX3_fishOn_23 : decode cX3_fishOn 23 = .ok (.if_icmp .ne 14, 3) := by decide +kernel
theorem dX3_fishOn_26 : decode cX3_fishOn 26 = .ok (.aload 4, 2) := by decide +kernel
theorem dX3_fishOn_28 : decode cX3_fishOn 28 = .ok (.getfield 84, 3) := by decide +kernel
theorem dX3_fishOn_31 : decode cX3_fishOn 31 = .ok (.iload_n 2, 1) := by decide +kernel
theorem dX3_fishOn_32 : decode cX3_fishOn 32 = .ok (.if_icmp .ne 5, 3) := by decide +kernel
theorem dX3_fishOn_35 : decode cX3_fishOn 35 = .ok (.iload_n 3, 1) := by decide +kernel
theorem dX3_fishOn_36 : decode cX3_fishOn 36 = .ok (.ireturn, 1) := by decide +kernel
theorem dX3_fishOn_37 : decode cX3_fishOn 37 = .ok (.iinc 3 1, 3) := by decide +kernel
theorem dX3_fishOn_40 : decode cX3_fishOn 40 = .ok (.goto (-38), 3) := by decide +kernel
theorem dX3_fishOn_43 : decode cX3_fishOn 43 = .ok (.iconst (-1), 1) := by decide +kernel
theorem dX3_fishOn_44 : decode cX3_fishOn 44 = .ok (.ireturn, 1) := by decide +kernel
theorem dX3_letterOn_0 : decode cX3_letterOn 0 = .ok (.aload_n 0, 1) := by decide +kernel
theorem dX3_letterOn_1 : decode cX3_letterOn 1 = .ok (.iload_n 1, 1) := by decide +kernel
theorem dX3_letterOn_2 : decode cX3_letterOn 2 = .ok (.iload_n 2, 1) := by decide +kernel
theorem dX3_letterOn_3 : decode cX3_letterOn 3 = .ok (.invokevirtual 87, 3) := by decide +kernel
theorem dX3_letterOn_6 : decode cX3_letterOn 6 = .ok (.istore_n 3, 1) := by decide +kernel
theorem dX3_letterOn_7 : decode cX3_letterOn 7 = .ok (.iload_n 3, 1) := by decide +kernel
theorem dX3_letterOn_8 : decode cX3_letterOn 8 = .ok (.iconst (-1), 1) := by decide +kernel
theorem dX3_letterOn_9 : decode cX3_letterOn 9 = .ok (.if_icmp .ne 6, 3) := by decide +kernel
theorem dX3_letterOn_12 : decode cX3_letterOn 12 = .ok (.bipush 46, 2) := by decide +kernel
theorem dX3_letterOn_14 : decode cX3_letterOn 14 = .ok (.ireturn, 1) := by decide +kernel
theorem dX3_letterOn_15 : decode cX3_letterOn 15 = .ok (.aload_n 0, 1) := by decide +kernel
theorem dX3_letterOn_16 : decode cX3_letterOn 16 = .ok (.iload_n 3, 1) := by decide +kernel
theorem dX3_letterOn_17 : decode cX3_letterOn 17 = .ok (.invokevirtual 47, 3) := by decide +kernel
theorem dX3_letterOn_20 : decode cX3_letterOn 20 = .ok (.invokevirtual 65, 3) := by decide +kernel
theorem dX3_letterOn_23 : decode cX3_letterOn 23 = .ok (.ifCond .eq 8, 3) := by decide +kernel
theorem dX3_letterOn_26 : decode cX3_letterOn 26 = .ok (.bipush 65, 2) := by decide +kernel
theorem dX3_letterOn_28 : decode cX3_letterOn 28 = .ok (.goto 5, 3) := by decide +kernel
theorem dX3_letterOn_31 : decode cX3_letterOn 31 = .ok (.bipush 97, 2) := by decide +kernel
theorem dX3_letterOn_33 : decode cX3_letterOn 33 = .ok (.iload_n 3, 1) := by decide +kernel
theorem dX3_letterOn_34 : decode cX3_letterOn 34 = .ok (.iadd, 1) := by decide +kernel
theorem dX3_letterOn_35 : decode cX3_letterOn 35 = .ok (.i2c, 1) := by decide +kernel
theorem dX3_letterOn_36 : decode cX3_letterOn 36 = .ok (.ireturn, 1) := by decide +kernel
theorem dX3_nearestOther_0 : decode cX3_nearestOther 0 = .ok (.bipush 10, 2) := by decide +kernel
theorem dX3_nearestOther_2 : decode cX3_nearestOther 2 = .ok (.istore 4, 2) := by decide +kernel
theorem dX3_nearestOther_4 : decode cX3_nearestOther 4 = .ok (.iconst 0, 1) := by decide +kernel
theorem dX3_nearestOther_5 : decode cX3_nearestOther 5 = .ok (.istore 5, 2) := by decide +kernel
theorem dX3_nearestOther_7 : decode cX3_nearestOther 7 = .ok (.iload 5, 2) := by decide +kernel
theorem dX3_nearestOther_9 : decode cX3_nearestOther 9 = .ok (.aload_n 0, 1) := by decide +kernel
theorem dX3_nearestOther_10 : decode cX3_nearestOther 10 = .ok (.getfield 22, 3) := by decide +kernel
theorem dX3_nearestOther_13 : decode cX3_nearestOther 13 = .ok (.if_icmp .ge 49, 3) := by decide +kernel
theorem dX3_nearestOther_16 : decode cX3_nearestOther 16 = .ok (.aload_n 0, 1) := by decide +kernel
theorem dX3_nearestOther_17 : decode cX3_nearestOther 17 = .ok (.iload 5, 2) := by decide +kernel
theorem dX3_nearestOther_19 : decode cX3_nearestOther 19 = .ok (.invokevirtual 47, 3) := by decide +kernel
theorem dX3_nearestOther_22 : decode cX3_nearestOther 22 = .ok (.astore 6, 2) := by decide +kernel
theorem dX3_nearestOther_24 : decode cX3_nearestOther 24 = .ok (.iload 5, 2) := by decide +kernel
theorem dX3_nearestOther_26 : decode cX3_nearestOther 26 = .ok (.iload_n 3, 1) := by decide +kernel
theorem dX3_nearestOther_27 : decode cX3_nearestOther 27 = .ok (.if_icmp .eq 29, 3) := by decide +kernel
theorem dX3_nearestOther_30 : decode cX3_nearestOther 30 = .ok (.aload 6, 2) := by decide +kernel
theorem dX3_nearestOther_32 : decode cX3_nearestOther 32 = .ok (.getfield 62, 3) := by decide +kernel
theorem dX3_nearestOther_35 : decode cX3_nearestOther 35 = .ok (.iload_n 1, 1) := by decide +kernel
theorem dX3_nearestOther_36 : decode cX3_nearestOther 36 = .ok (.if_icmp .ne 20, 3) := by decide +kernel
theorem dX3_nearestOther_39 : decode cX3_nearestOther 39 = .ok (.iload 4, 2) := by decide +kernel
theorem dX3_nearestOther_41 : decode cX3_nearestOther 41 = .ok (.aload 6, 2) := by decide +kernel
theorem dX3_nearestOther_43 : decode cX3_nearestOther 43 = .ok (.getfield 84, 3) := by decide +kernel
theorem dX3_nearestOther_46 : decode cX3_nearestOther 46 = .ok (.iload_n 2, 1) := by decide +kernel
theorem dX3_nearestOther_47 : decode cX3_nearestOther 47 = .ok (.isub, 1) := by decide +kernel
theorem dX3_nearestOther_48 : decode cX3_nearestOther 48 = .ok (.invokestatic 91, 3) := by decide +kernel
theorem dX3_nearestOther_51 : decode cX3_nearestOther 51 = .ok (.invokestatic 97, 3) := by decide +kernel
theorem dX3_nearestOther_54 : decode cX3_nearestOther 54 = .ok (.istore 4, 2) := by decide +kernel
theorem dX3_nearestOther_56 : decode cX3_nearestOther 56 = .ok (.iinc 5 1, 3) := by decide +kernel
theorem dX3_nearestOther_59 : decode cX3_nearestOther 59 = .ok (.goto (-52), 3) := by decide +kernel
theorem dX3_nearestOther_62 : decode cX3_nearestOther 62 = .ok (.iload 4, 2) := by decide +kernel
theorem dX3_nearestOther_64 : decode cX3_nearestOther 64 = .ok (.ireturn, 1) := by decide +kernel
theorem dX3_nearestTo_0 : decode cX3_nearestTo 0 = .ok (.aload_n 0, 1) := by decide +kernel
theorem dX3_nearestTo_1 : decode cX3_nearestTo 1 = .ok (.iload_n 1, 1) := by decide +kernel
theorem dX3_nearestTo_2 : decode cX3_nearestTo 2 = .ok (.invokevirtual 47, 3) := by decide +kernel
theorem dX3_nearestTo_5 : decode cX3_nearestTo 5 = .ok (.astore_n 2, 1) := by decide +kernel
theorem dX3_nearestTo_6 : decode cX3_nearestTo 6 = .ok (.aload_n 2, 1) := by decide +kernel
theorem dX3_nearestTo_7 : decode cX3_nearestTo 7 = .ok (.invokevirtual 100, 3) := by decide +kernel
theorem dX3_nearestTo_10 : decode cX3_nearestTo 10 = .ok (.ifCond .eq 19, 3) := by decide +kernel
theorem dX3_nearestTo_13 : decode cX3_nearestTo 13 = .ok (.aload_n 0, 1) := by decide +kernel
theorem dX3_nearestTo_14 : decode cX3_nearestTo 14 = .ok (.aload_n 2, 1) := by decide +kernel
theorem dX3_nearestTo_15 : decode cX3_nearestTo 15 = .ok (.getfield 62, 3) := by decide +kernel
theorem dX3_nearestTo_18 : decode cX3_nearestTo 18 = .ok (.aload_n 2, 1) := by decide +kernel
theorem dX3_nearestTo_19 : decode cX3_nearestTo 19 = .ok (.getfield 84, 3) := by decide +kernel
theorem dX3_nearestTo_22 : decode cX3_nearestTo 22 = .ok (.iload_n 1, 1) := by decide +kernel
theorem dX3_nearestTo_23 : decode cX3_nearestTo 23 = .ok (.invokevirtual 103, 3) := by decide +kernel
theorem dX3_nearestTo_26 : decode cX3_nearestTo 26 = .ok (.goto 5, 3) := by decide +kernel
theorem dX3_nearestTo_29 : decode cX3_nearestTo 29 = .ok (.bipush 10, 2) := by decide +kernel
theorem dX3_nearestTo_31 : decode cX3_nearestTo 31 = .ok (.ireturn, 1) := by decide +kernel
theorem dX3_hangsTooNear_0 : decode cX3_hangsTooNear 0 = .ok (.aload_n 0, 1) := by decide +kernel
theorem dX3_hangsTooNear_1 : decode cX3_hangsTooNear 1 = .ok (.iload_n 1, 1) := by decide +kernel
theorem dX3_hangsTooNear_2 : decode cX3_hangsTooNear 2 = .ok (.invokevirtual 47, 3) := by decide +kernel
theorem dX3_hangsTooNear_5 : decode cX3_hangsTooNear 5 = .ok (.astore_n 2, 1) := by decide +kernel
theorem dX3_hangsTooNear_6 : decode cX3_hangsTooNear 6 = .ok (.aload_n 2, 1) := by decide +kernel
theorem dX3_hangsTooNear_7 : decode cX3_hangsTooNear 7 = .ok (.invokevirtual 100, 3) := by decide +kernel
theorem dX3_hangsTooNear_10 : decode cX3_hangsTooNear 10 = .ok (.ifCond .eq 27, 3) := by decide +kernel
theorem dX3_hangsTooNear_13 : decode cX3_hangsTooNear 13 = .ok (.aload_n 0, 1) := by decide +kernel
theorem dX3_hangsTooNear_14 : decode cX3_hangsTooNear 14 = .ok (.aload_n 2, 1) := by decide +kernel
theorem dX3_hangsTooNear_15 : decode cX3_hangsTooNear 15 = .ok (.getfield 62, 3) := by decide +kernel
theorem dX3_hangsTooNear_18 : decode cX3_hangsTooNear 18 = .ok (.aload_n 2, 1) := by decide +kernel
theorem dX3_hangsTooNear_19 : decode cX3_hangsTooNear 19 = .ok (.getfield 84, 3) := by decide +kernel
theorem dX3_hangsTooNear_22 : decode cX3_hangsTooNear 22 = .ok (.iload_n 1, 1) := by decide +kernel
theorem dX3_hangsTooNear_23 : decode cX3_hangsTooNear 23 = .ok (.invokevirtual 103, 3) := by decide +kernel
theorem dX3_hangsTooNear_26 : decode cX3_hangsTooNear 26 = .ok (.aload_n 2, 1) := by decide +kernel
theorem dX3_hangsTooNear_27 : decode cX3_hangsTooNear 27 = .ok (.invokevirtual 107, 3) := by decide +kernel
theorem dX3_hangsTooNear_30 : decode cX3_hangsTooNear 30 = .ok (.if_icmp .ge 7, 3) := by decide +kernel
theorem dX3_hangsTooNear_33 : decode cX3_hangsTooNear 33 = .ok (.iconst 1, 1) := by decide +kernel
theorem dX3_hangsTooNear_34 : decode cX3_hangsTooNear 34 = .ok (.goto 4, 3) := by decide +kernel
theorem dX3_hangsTooNear_37 : decode cX3_hangsTooNear 37 = .ok (.iconst 0, 1) := by decide +kernel
theorem dX3_hangsTooNear_38 : decode cX3_hangsTooNear 38 = .ok (.ireturn, 1) := by decide +kernel
theorem dX3_farthestHook_0 : decode cX3_farthestHook 0 = .ok (.iconst (-1), 1) := by decide +kernel
theorem dX3_farthestHook_1 : decode cX3_farthestHook 1 = .ok (.istore_n 3, 1) := by decide +kernel
theorem dX3_farthestHook_2 : decode cX3_farthestHook 2 = .ok (.iconst 0, 1) := by decide +kernel
theorem dX3_farthestHook_3 : decode cX3_farthestHook 3 = .ok (.istore 4, 2) := by decide +kernel
theorem dX3_farthestHook_5 : decode cX3_farthestHook 5 = .ok (.iconst 0, 1) := by decide +kernel
theorem dX3_farthestHook_6 : decode cX3_farthestHook 6 = .ok (.istore 5, 2) := by decide +kernel
theorem dX3_farthestHook_8 : decode cX3_farthestHook 8 = .ok (.iload 5, 2) := by decide +kernel
theorem dX3_farthestHook_10 : decode cX3_farthestHook 10 = .ok (.bipush 10, 2) := by decide +kernel
theorem dX3_farthestHook_12 : decode cX3_farthestHook 12 = .ok (.if_icmp .ge 33, 3) := by decide +kernel
theorem dX3_farthestHook_15 : decode cX3_farthestHook 15 = .ok (.aload_n 0, 1) := by decide +kernel
theorem dX3_farthestHook_16 : decode cX3_farthestHook 16 = .ok (.iload_n 2, 1) := by decide +kernel
theorem dX3_farthestHook_17 : decode cX3_farthestHook 17 = .ok (.iload 5, 2) := by decide +kernel
theorem dX3_farthestHook_19 : decode cX3_farthestHook 19 = .ok (.iload_n 1, 1) := by decide +kernel
theorem dX3_farthestHook_20 : decode cX3_farthestHook 20 = .ok (.invokevirtual 103, 3) := by decide +kernel
theorem dX3_farthestHook_23 : decode cX3_farthestHook 23 = .ok (.istore 6, 2) := by decide +kernel
theorem dX3_farthestHook_25 : decode cX3_farthestHook 25 = .ok (.iload 6, 2) := by decide +kernel
theorem dX3_farthestHook_27 : decode cX3_farthestHook 27 = .ok (.iload 4, 2) := by decide +kernel
theorem dX3_farthestHook_29 : decode cX3_farthestHook 29 = .ok (.if_icmp .le 10, 3) := by decide +kernel
theorem dX3_farthestHook_32 : decode cX3_farthestHook 32 = .ok (.iload 5, 2) := by decide +kernel
theorem dX3_farthestHook_34 : decode cX3_farthestHook 34 = .ok (.istore_n 3, 1) := by decide +kernel
theorem dX3_farthestHook_35 : decode cX3_farthestHook 35 = .ok (.iload 6, 2) := by decide +kernel
theorem dX3_farthestHook_37 : decode cX3_farthestHook 37 = .ok (.istore 4, 2) := by decide +kernel
theorem dX3_farthestHook_39 : decode cX3_farthestHook 39 = .ok (.iinc 5 1, 3) := by decide +kernel
theorem dX3_farthestHook_42 : decode cX3_farthestHook 42 = .ok (.goto (-34), 3) := by decide +kernel
theorem dX3_farthestHook_45 : decode cX3_farthestHook 45 = .ok (.iload_n 3, 1) := by decide +kernel
theorem dX3_farthestHook_46 : decode cX3_farthestHook 46 = .ok (.ireturn, 1) := by decide +kernel
theorem dX3_fishAtPlace_0 : decode cX3_fishAtPlace 0 = .ok (.iconst 0, 1) := by decide +kernel
theorem dX3_fishAtPlace_1 : decode cX3_fishAtPlace 1 = .ok (.istore_n 3, 1) := by decide +kernel
theorem dX3_fishAtPlace_2 : decode cX3_fishAtPlace 2 = .ok (.iload_n 3, 1) := by decide +kernel
theorem dX3_fishAtPlace_3 : decode cX3_fishAtPlace 3 = .ok (.aload_n 0, 1) := by decide +kernel
theorem dX3_fishAtPlace_4 : decode cX3_fishAtPlace 4 = .ok (.getfield 22, 3) := by decide +kernel
theorem dX3_fishAtPlace_7 : decode cX3_fishAtPlace 7 = .ok (.if_icmp .ge 21, 3) := by decide +kernel
theorem dX3_fishAtPlace_10 : decode cX3_fishAtPlace 10 = .ok (.aload_n 0, 1) := by decide +kernel
theorem dX3_fishAtPlace_11 : decode cX3_fishAtPlace 11 = .ok (.iload_n 1, 1) := by decide +kernel
theorem dX3_fishAtPlace_12 : decode cX3_fishAtPlace 12 = .ok (.iload_n 3, 1) := by decide +kernel
theorem dX3_fishAtPlace_13 : decode cX3_fishAtPlace 13 = .ok (.invokevirtual 111, 3) := by decide +kernel
theorem dX3_fishAtPlace_16 : decode cX3_fishAtPlace 16 = .ok (.iload_n 2, 1) := by decide +kernel
theorem dX3_fishAtPlace_17 : decode cX3_fishAtPlace 17 = .ok (.if_icmp .ne 5, 3) := by decide +kernel
theorem dX3_fishAtPlace_20 : decode cX3_fishAtPlace 20 = .ok (.iload_n 3, 1) := by decide +kernel
theorem dX3_fishAtPlace_21 : decode cX3_fishAtPlace 21 = .ok (.ireturn, 1) := by decide +kernel
theorem dX3_fishAtPlace_22 : decode cX3_fishAtPlace 22 = .ok (.iinc 3 1, 3) := by decide +kernel
theorem dX3_fishAtPlace_25 : decode cX3_fishAtPlace 25 = .ok (.goto (-23), 3) := by decide +kernel
theorem dX3_fishAtPlace_28 : decode cX3_fishAtPlace 28 = .ok (.iconst (-1), 1) := by decide +kernel
theorem dX3_fishAtPlace_29 : decode cX3_fishAtPlace 29 = .ok (.ireturn, 1) := by decide +kernel
theorem dX3_placeOf_0 : decode cX3_placeOf 0 = .ok (.aload_n 0, 1) := by decide +kernel
theorem dX3_placeOf_1 : decode cX3_placeOf 1 = .ok (.iload_n 2, 1) := by decide +kernel
theorem dX3_placeOf_2 : decode cX3_placeOf 2 = .ok (.invokevirtual 47, 3) := by decide +kernel
theorem dX3_placeOf_5 : decode cX3_placeOf 5 = .ok (.iload_n 1, 1) := by decide +kernel
theorem dX3_placeOf_6 : decode cX3_placeOf 6 = .ok (.invokevirtual 114, 3) := by decide +kernel
theorem dX3_placeOf_9 : decode cX3_placeOf 9 = .ok (.istore_n 3, 1) := by decide +kernel
theorem dX3_placeOf_10 : decode cX3_placeOf 10 = .ok (.iconst 0, 1) := by decide +kernel
theorem dX3_placeOf_11 : decode cX3_placeOf 11 = .ok (.istore 4, 2) := by decide +kernel
theorem dX3_placeOf_13 : decode cX3_placeOf 13 = .ok (.iconst 0, 1) := by decide +kernel
theorem dX3_placeOf_14 : decode cX3_placeOf 14 = .ok (.istore 5, 2) := by decide +kernel
theorem dX3_placeOf_16 : decode cX3_placeOf 16 = .ok (.iload 5, 2) := by decide +kernel
theorem dX3_placeOf_18 : decode cX3_placeOf 18 = .ok (.aload_n 0, 1) := by decide +kernel
theorem dX3_placeOf_19 : decode cX3_placeOf 19 = .ok (.getfield 22, 3) := by decide +kernel
theorem dX3_placeOf_22 : decode cX3_placeOf 22 = .ok (.if_icmp .ge 61, 3) := by decide +kernel
theorem dX3_placeOf_25 : decode cX3_placeOf 25 = .ok (.aload_n 0, 1) := by decide +kernel
theorem dX3_placeOf_26 : decode cX3_placeOf 26 = .ok (.iload 5, 2) := by decide +kernel
theorem dX3_placeOf_28 : decode cX3_placeOf 28 = .ok (.invokevirtual 47, 3) := by decide +kernel
theorem dX3_placeOf_31 : decode cX3_placeOf 31 = .ok (.iload_n 1, 1) := by decide +kernel
theorem dX3_placeOf_32 : decode cX3_placeOf 32 = .ok (.invokevirtual 114, 3) := by decide +kernel
theorem dX3_placeOf_35 : decode cX3_placeOf 35 = .ok (.istore 6, 2) := by decide +kernel
theorem dX3_placeOf_37 : decode cX3_placeOf 37 = .ok (.iload 6, 2) := by decide +kernel
theorem dX3_placeOf_39 : decode cX3_placeOf 39 = .ok (.iload_n 3, 1) := by decide +kernel
theorem dX3_placeOf_40 : decode cX3_placeOf 40 = .ok (.if_icmp .gt 15, 3) := by decide +kernel
theorem dX3_placeOf_43 : decode cX3_placeOf 43 = .ok (.iload 6, 2) := by decide +kernel
theorem dX3_placeOf_45 : decode cX3_placeOf 45 = .ok (.iload_n 3, 1) := by decide +kernel
theorem dX3_placeOf_46 : decode cX3_placeOf 46 = .ok (.if_icmp .ne 13, 3) := by decide +kernel
theorem dX3_placeOf_49 : decode cX3_placeOf 49 = .ok (.iload 5, 2) := by decide +kernel
theorem dX3_placeOf_51 : decode cX3_placeOf 51 = .ok (.iload_n 2, 1) := by decide +kernel
theorem dX3_placeOf_52 : decode cX3_placeOf 52 = .ok (.if_icmp .ge 7, 3) := by decide +kernel
theorem dX3_placeOf_55 : decode cX3_placeOf 55 = .ok (.iconst 1, 1) := by decide +kernel
theorem dX3_placeOf_56 : decode cX3_placeOf 56 = .ok (.goto 4, 3) := by decide +kernel
theorem dX3_placeOf_59 : decode cX3_placeOf 59 = .ok (.iconst 0, 1) := by decide +kernel
theorem dX3_placeOf_60 : decode cX3_placeOf 60 = .ok (.istore 7, 2) := by decide +kernel
theorem dX3_placeOf_62 : decode cX3_placeOf 62 = .ok (.iload 4, 2) := by decide +kernel
theorem dX3_placeOf_64 : decode cX3_placeOf 64 = .ok (.iload 7, 2) := by decide +kernel
theorem dX3_placeOf_66 : decode cX3_placeOf 66 = .ok (.ifCond .eq 7, 3) := by decide +kernel
theorem dX3_placeOf_69 : decode cX3_placeOf 69 = .ok (.iconst 1, 1) := by decide +kernel
theorem dX3_placeOf_70 : decode cX3_placeOf 70 = .ok (.goto 4, 3) := by decide +kernel
theorem dX3_placeOf_73 : decode cX3_placeOf 73 = .ok (.iconst 0, 1) := by decide +kernel
theorem dX3_placeOf_74 : decode cX3_placeOf 74 = .ok (.iadd, 1) := by decide +kernel
theorem dX3_placeOf_75 : decode cX3_placeOf 75 = .ok (.istore 4, 2) := by decide +kernel
theorem dX3_placeOf_77 : decode cX3_placeOf 77 = .ok (.iinc 5 1, 3) := by decide +kernel
theorem dX3_placeOf_80 : decode cX3_placeOf 80 = .ok (.goto (-64), 3) := by decide +kernel
theorem dX3_placeOf_83 : decode cX3_placeOf 83 = .ok (.iload 4, 2) := by decide +kernel
theorem dX3_placeOf_85 : decode cX3_placeOf 85 = .ok (.ireturn, 1) := by decide +kernel
theorem dX3_smokeOne_0 : decode cX3_smokeOne 0 = .ok (.aload_n 1, 1) := by decide +kernel
theorem dX3_smokeOne_1 : decode cX3_smokeOne 1 = .ok (.invokevirtual 100, 3) := by decide +kernel
theorem dX3_smokeOne_4 : decode cX3_smokeOne 4 = .ok (.ifCond .ne 4, 3) := by decide +kernel
theorem dX3_smokeOne_7 : decode cX3_smokeOne 7 = .ok (.return_, 1) := by decide +kernel
theorem dX3_smokeOne_8 : decode cX3_smokeOne 8 = .ok (.iload_n 2, 1) := by decide +kernel
theorem dX3_smokeOne_9 : decode cX3_smokeOne 9 = .ok (.aload_n 1, 1) := by decide +kernel
theorem dX3_smokeOne_10 : decode cX3_smokeOne 10 = .ok (.getfield 62, 3) := by decide +kernel
theorem dX3_smokeOne_13 : decode cX3_smokeOne 13 = .ok (.invokestatic 117, 3) := by decide +kernel
theorem dX3_smokeOne_16 : decode cX3_smokeOne 16 = .ok (.istore 4, 2) := by decide +kernel
theorem dX3_smokeOne_18 : decode cX3_smokeOne 18 = .ok (.iload_n 2, 1) := by decide +kernel
theorem dX3_smokeOne_19 : decode cX3_smokeOne 19 = .ok (.ifCond .le 13, 3) := by decide +kernel
theorem dX3_smokeOne_22 : decode cX3_smokeOne 22 = .ok (.iload 4, 2) := by decide +kernel
theorem dX3_smokeOne_24 : decode cX3_smokeOne 24 = .ok (.aload_n 0, 1) := by decide +kernel
theorem dX3_smokeOne_25 : decode cX3_smokeOne 25 = .ok (.getfield 29, 3) := by decide +kernel
theorem dX3_smokeOne_28 : decode cX3_smokeOne 28 = .ok (.iadd, 1) := by decide +kernel
theorem dX3_smokeOne_29 : decode cX3_smokeOne 29 = .ok (.goto 4, 3) := by decide +kernel
theorem dX3_smokeOne_32 : decode cX3_smokeOne 32 = .ok (.iconst 0, 1) := by decide +kernel
theorem dX3_smokeOne_33 : decode cX3_smokeOne 33 = .ok (.istore 5, 2) := by decide +kernel
theorem dX3_smokeOne_35 : decode cX3_smokeOne 35 = .ok (.aload_n 1, 1) := by decide +kernel
theorem dX3_smokeOne_36 : decode cX3_smokeOne 36 = .ok (.iload 4, 2) := by decide +kernel
theorem dX3_smokeOne_38 : decode cX3_smokeOne 38 = .ok (.iload_n 3, 1) := by decide +kernel
theorem dX3_smokeOne_39 : decode cX3_smokeOne 39 = .ok (.ifCond .eq 10, 3) := by decide +kernel
theorem dX3_smokeOne_42 : decode cX3_smokeOne 42 = .ok (.iload 5, 2) := by decide +kernel
theorem dX3_smokeOne_44 : decode cX3_smokeOne 44 = .ok (.iconst 2, 1) := by decide +kernel
theorem dX3_smokeOne_45 : decode cX3_smokeOne 45 = .ok (.idiv, 1) := by decide +kernel
theorem dX3_smokeOne_46 : decode cX3_smokeOne 46 = .ok (.goto 5, 3) := by decide +kernel
theorem dX3_smokeOne_49 : decode cX3_smokeOne 49 = .ok (.iload 5, 2) := by decide +kernel
theorem dX3_smokeOne_51 : decode cX3_smokeOne 51 = .ok (.invokevirtual 120, 3) := by decide +kernel
theorem dX3_smokeOne_54 : decode cX3_smokeOne 54 = .ok (.return_, 1) := by decide +kernel
theorem dX3_passHour_0 : decode cX3_passHour 0 = .ok (.iconst 0, 1) := by decide +kernel
theorem dX3_passHour_1 : decode cX3_passHour 1 = .ok (.istore_n 1, 1) := by decide +kernel
theorem dX3_passHour_2 : decode cX3_passHour 2 = .ok (.iload_n 1, 1) := by decide +kernel
theorem dX3_passHour_3 : decode cX3_passHour 3 = .ok (.aload_n 0, 1) := by decide +kernel
theorem dX3_passHour_4 : decode cX3_passHour 4 = .ok (.getfield 22, 3) := by decide +kernel
theorem dX3_passHour_7 : decode cX3_passHour 7 = .ok (.if_icmp .ge 27, 3) := by decide +kernel
theorem dX3_passHour_10 : decode cX3_passHour 10 = .ok (.aload_n 0, 1) := by decide +kernel
theorem dX3_passHour_11 : decode cX3_passHour 11 = .ok (.aload_n 0, 1) := by decide +kernel
theorem dX3_passHour_12 : decode cX3_passHour 12 = .ok (.iload_n 1, 1) := by decide +kernel
theorem dX3_passHour_13 : decode cX3_passHour 13 = .ok (.invokevirtual 47, 3) := by decide +kernel
theorem dX3_passHour_16 : decode cX3_passHour 16 = .ok (.aload_n 0, 1) := by decide +kernel
theorem dX3_passHour_17 : decode cX3_passHour 17 = .ok (.getfield 26, 3) := by decide +kernel
theorem dX3_passHour_20 : decode cX3_passHour 20 = .ok (.aload_n 0, 1) := by decide +kernel
theorem dX3_passHour_21 : decode cX3_passHour 21 = .ok (.iload_n 1, 1) := by decide +kernel
theorem dX3_passHour_22 : decode cX3_passHour 22 = .ok (.invokevirtual 124, 3) := by decide +kernel
theorem dX3_passHour_25 : decode cX3_passHour 25 = .ok (.invokevirtual 128, 3) := by decide +kernel
theorem dX3_passHour_28 : decode cX3_passHour 28 = .ok (.iinc 1 1, 3) := by decide +kernel
theorem dX3_passHour_31 : decode cX3_passHour 31 = .ok (.goto (-29), 3) := by decide +kernel
theorem dX3_passHour_34 : decode cX3_passHour 34 = .ok (.aload_n 0, 1) := by decide +kernel
theorem dX3_passHour_35 : decode cX3_passHour 35 = .ok (.iconst 0, 1) := by decide +kernel
theorem dX3_passHour_36 : decode cX3_passHour 36 = .ok (.aload_n 0, 1) := by decide +kernel
theorem dX3_passHour_37 : decode cX3_passHour 37 = .ok (.getfield 26, 3) := by decide +kernel
theorem dX3_passHour_40 : decode cX3_passHour 40 = .ok (.iconst 1, 1) := by decide +kernel
theorem dX3_passHour_41 : decode cX3_passHour 41 = .ok (.isub, 1) := by decide +kernel
theorem dX3_passHour_42 : decode cX3_passHour 42 = .ok (.invokestatic 132, 3) := by decide +kernel
theorem dX3_passHour_45 : decode cX3_passHour 45 = .ok (.putfield 26, 3) := by decide +kernel
theorem dX3_passHour_48 : decode cX3_passHour 48 = .ok (.aload_n 0, 1) := by decide +kernel
theorem dX3_passHour_49 : decode cX3_passHour 49 = .ok (.dup, 1) := by decide +kernel
theorem dX3_passHour_50 : decode cX3_passHour 50 = .ok (.getfield 32, 3) := by decide +kernel
theorem dX3_passHour_53 : decode cX3_passHour 53 = .ok (.iconst 1, 1) := by decide +kernel
theorem dX3_passHour_54 : decode cX3_passHour 54 = .ok (.iadd, 1) := by decide +kernel
theorem dX3_passHour_55 : decode cX3_passHour 55 = .ok (.putfield 32, 3) := by decide +kernel
theorem dX3_passHour_58 : decode cX3_passHour 58 = .ok (.return_, 1) := by decide +kernel
theorem dX4_init_0 : decode cX4_init 0 = .ok (.aload_n 0, 1) := by decide +kernel
theorem dX4_init_1 : decode cX4_init 1 = .ok (.invokespecial 3, 3) := by decide +kernel
theorem dX4_init_4 : decode cX4_init 4 = .ok (.aload_n 0, 1) := by decide +kernel
theorem dX4_init_5 : decode cX4_init 5 = .ok (.bipush 14, 2) := by decide +kernel
theorem dX4_init_7 : decode cX4_init 7 = .ok (.newarray .char, 2) := by decide +kernel
theorem dX4_init_9 : decode cX4_init 9 = .ok (.putfield 9, 3) := by decide +kernel
theorem dX4_init_12 : decode cX4_init 12 = .ok (.return_, 1) := by decide +kernel
theorem dX4_empty_0 : decode cX4_empty 0 = .ok (.aload_n 0, 1) := by decide +kernel
theorem dX4_empty_1 : decode cX4_empty 1 = .ok (.iconst 0, 1) := by decide +kernel
theorem dX4_empty_2 : decode cX4_empty 2 = .ok (.putfield 15, 3) := by decide +kernel
theorem dX4_empty_5 : decode cX4_empty 5 = .ok (.return_, 1) := by decide +kernel
theorem dX4_add_0 : decode cX4_add 0 = .ok (.aload_n 0, 1) := by decide +kernel
theorem dX4_add_1 : decode cX4_add 1 = .ok (.getfield 15, 3) := by decide +kernel
theorem dX4_add_4 : decode cX4_add 4 = .ok (.aload_n 0, 1) := by decide +kernel
theorem dX4_add_5 : decode cX4_add 5 = .ok (.getfield 9, 3) := by decide +kernel
theorem dX4_add_8 : decode cX4_add 8 = .ok (.arraylength, 1) := by decide +kernel
theorem dX4_add_9 : decode cX4_add 9 = .ok (.if_icmp .ge 23, 3) := by decide +kernel
theorem dX4_add_12 : decode cX4_add 12 = .ok (.aload_n 0, 1) := by decide +kernel
theorem dX4_add_13 : decode cX4_add 13 = .ok (.getfield 9, 3) := by decide +kernel
theorem dX4_add_16 : decode cX4_add 16 = .ok (.aload_n 0, 1) := by decide +kernel
theorem dX4_add_17 : decode cX4_add 17 = .ok (.getfield 15, 3) := by decide +kernel
theorem dX4_add_20 : decode cX4_add 20 = .ok (.iload_n 1, 1) := by decide +kernel
theorem dX4_add_21 : decode cX4_add 21 = .ok (.castore, 1) := by decide +kernel
theorem dX4_add_22 : decode cX4_add 22 = .ok (.aload_n 0, 1) := by decide +kernel
theorem dX4_add_23 : decode cX4_add 23 = .ok (.dup, 1) := by decide +kernel
theorem dX4_add_24 : decode cX4_add 24 = .ok (.getfield 15, 3) := by decide +kernel
theorem dX4_add_27 : decode cX4_add 27 = .ok (.iconst 1, 1) := by decide +kernel
theorem dX4_add_28 : decode cX4_add 28 = .ok (.iadd, 1) := by decide +kernel
theorem dX4_add_29 : decode cX4_add 29 = .ok (.putfield 15, 3) := by decide +kernel
theorem dX4_add_32 : decode cX4_add 32 = .ok (.return_, 1) := by decide +kernel
theorem dX4_addNumber_0 : decode cX4_addNumber 0 = .ok (.iload_n 1, 1) := by decide +kernel
theorem dX4_addNumber_1 : decode cX4_addNumber 1 = .ok (.bipush 9, 2) := by decide +kernel
theorem dX4_addNumber_3 : decode cX4_addNumber 3 = .ok (.if_icmp .le 15, 3) := by decide +kernel
theorem dX4_addNumber_6 : decode cX4_addNumber 6 = .ok (.aload_n 0, 1) := by decide +kernel
theorem dX4_addNumber_7 : decode cX4_addNumber 7 = .ok (.bipush 48, 2) := by decide +kernel
theorem dX4_addNumber_9 : decode cX4_addNumber 9 = .ok (.iload_n 1, 1) := by decide +kernel
theorem dX4_addNumber_10 : decode cX4_addNumber 10 = .ok (.bipush 10, 2) := by decide +kernel
theorem dX4_addNumber_12 : decode cX4_addNumber 12 = .ok (.idiv, 1) := by decide +kernel
theorem dX4_addNumber_13 : decode cX4_addNumber 13 = .ok (.iadd, 1) := by decide +kernel
theorem dX4_addNumber_14 : decode cX4_addNumber 14 = .ok (.i2c, 1) := by decide +kernel
theorem dX4_addNumber_15 : decode cX4_addNumber 15 = .ok (.invokevirtual 19, 3) := by decide +kernel
theorem dX4_addNumber_18 : decode cX4_addNumber 18 = .ok (.aload_n 0, 1) := by decide +kernel
theorem dX4_addNumber_19 : decode cX4_addNumber 19 = .ok (.bipush 48, 2) := by decide +kernel
theorem dX4_addNumber_21 : decode cX4_addNumber 21 = .ok (.iload_n 1, 1) := by decide +kernel
theorem dX4_addNumber_22 : decode cX4_addNumber 22 = .ok (.bipush 10, 2) := by decide +kernel
theorem dX4_addNumber_24 : decode cX4_addNumber 24 = .ok (.irem, 1) := by decide +kernel
theorem dX4_addNumber_25 : decode cX4_addNumber 25 = .ok (.iadd, 1) := by decide +kernel
theorem dX4_addNumber_26 : decode cX4_addNumber 26 = .ok (.i2c, 1) := by decide +kernel
theorem dX4_addNumber_27 : decode cX4_addNumber 27 = .ok (.invokevirtual 19, 3) := by decide +kernel
theorem dX4_addNumber_30 : decode cX4_addNumber 30 = .ok (.return_, 1) := by decide +kernel
theorem dX4_addSide_0 : decode cX4_addSide 0 = .ok (.aload_n 0, 1) := by decide +kernel
theorem dX4_addSide_1 : decode cX4_addSide 1 = .ok (.bipush 47, 2) := by decide +kernel
theorem dX4_addSide_3 : decode cX4_addSide 3 = .ok (.invokevirtual 19, 3) := by decide +kernel
theorem dX4_addSide_6 : decode cX4_addSide 6 = .ok (.aload_n 0, 1) := by decide +kernel
theorem dX4_addSide_7 : decode cX4_addSide 7 = .ok (.aload_n 1, 1) := by decide +kernel
theorem dX4_addSide_8 : decode cX4_addSide 8 = .ok (.getfield 23, 3) := by decide +kernel
theorem dX4_addSide_11 : decode cX4_addSide 11 = .ok (.invokevirtual 28, 3) := by decide +kernel
theorem dX4_addSide_14 : decode cX4_addSide 14 = .ok (.aload_n 0, 1) := by decide +kernel
theorem dX4_addSide_15 : decode cX4_addSide 15 = .ok (.bipush 126, 2) := by decide +kernel
theorem dX4_addSide_17 : decode cX4_addSide 17 = .ok (.invokevirtual 19, 3) := by decide +kernel
theorem dX4_addSide_20 : decode cX4_addSide 20 = .ok (.aload_n 0, 1) := by decide +kernel
theorem dX4_addSide_21 : decode cX4_addSide 21 = .ok (.aload_n 1, 1) := by decide +kernel
theorem dX4_addSide_22 : decode cX4_addSide 22 = .ok (.getfield 32, 3) := by decide +kernel
theorem dX4_addSide_25 : decode cX4_addSide 25 = .ok (.invokevirtual 28, 3) := by decide +kernel
theorem dX4_addSide_28 : decode cX4_addSide 28 = .ok (.iload_n 2, 1) := by decide +kernel
theorem dX4_addSide_29 : decode cX4_addSide 29 = .ok (.ifCond .eq 9, 3) := by decide +kernel
theorem dX4_addSide_32 : decode cX4_addSide 32 = .ok (.aload_n 0, 1) := by decide +kernel
theorem dX4_addSide_33 : decode cX4_addSide 33 = .ok (.bipush 33, 2) := by decide +kernel
theorem dX4_addSide_35 : decode cX4_addSide 35 = .ok (.invokevirtual 19, 3) := by decide +kernel
theorem dX4_addSide_38 : decode cX4_addSide 38 = .ok (.return_, 1) := by decide +kernel
theorem dX4_signAt_0 : decode cX4_signAt 0 = .ok (.iload_n 1, 1) := by decide +kernel
theorem dX4_signAt_1 : decode cX4_signAt 1 = .ok (.ifCond .lt 21, 3) := by decide +kernel
theorem dX4_signAt_4 : decode cX4_signAt 4 = .ok (.iload_n 1, 1) := by decide +kernel
theorem dX4_signAt_5 : decode cX4_signAt 5 = .ok (.aload_n 0, 1) := by decide +kernel
theorem dX4_signAt_6 : decode cX4_signAt 6 = .ok (.getfield 9, 3) := by decide +kernel
theorem dX4_signAt_9 : decode cX4_signAt 9 = .ok (.arraylength, 1) := by decide +kernel
theorem dX4_signAt_10 : decode cX4_signAt 10 = .ok (.if_icmp .ge 12, 3) := by decide +kernel
theorem dX4_signAt_13 : decode cX4_signAt 13 = .ok (.aload_n 0, 1) := by decide +kernel
theorem dX4_signAt_14 : decode cX4_signAt 14 = .ok (.getfield 9, 3) := by decide +kernel
theorem dX4_signAt_17 : decode cX4_signAt 17 = .ok (.iload_n 1, 1) := by decide +kernel
theorem dX4_signAt_18 : decode cX4_signAt 18 = .ok (.caload, 1) := by decide +kernel
theorem dX4_signAt_19 : decode cX4_signAt 19 = .ok (.goto 4, 3) := by decide +kernel
theorem dX4_signAt_22 : decode cX4_signAt 22 = .ok (.iconst 0, 1) := by decide +kernel
theorem dX4_signAt_23 : decode cX4_signAt 23 = .ok (.ireturn, 1) := by decide +kernel
theorem dX5_init_0 : decode cX5_init 0 = .ok (.aload_n 0, 1) := by decide +kernel
theorem dX5_init_1 : decode cX5_init 1 = .ok (.invokespecial 3, 3) := by decide +kernel
theorem dX5_init_4 : decode cX5_init 4 = .ok (.return_, 1) := by decide +kernel
theorem dX5_keep_0 : decode cX5_keep 0 = .ok (.aload_n 0, 1) := by decide +kernel
theorem dX5_keep_1 : decode cX5_keep 1 = .ok (.iconst 1, 1) := by decide +kernel
theorem dX5_keep_2 : decode cX5_keep 2 = .ok (.putfield 9, 3) := by decide +kernel
theorem dX5_keep_5 : decode cX5_keep 5 = .ok (.aload_n 0, 1) := by decide +kernel
theorem dX5_keep_6 : decode cX5_keep 6 = .ok (.iload_n 1, 1) := by decide +kernel
theorem dX5_keep_7 : decode cX5_keep 7 = .ok (.putfield 15, 3) := by decide +kernel
theorem dX5_keep_10 : decode cX5_keep 10 = .ok (.aload_n 0, 1) := by decide +kernel
theorem dX5_keep_11 : decode cX5_keep 11 = .ok (.iload_n 2, 1) := by decide +kernel
theorem dX5_keep_12 : decode cX5_keep 12 = .ok (.putfield 19, 3) := by decide +kernel
theorem dX5_keep_15 : decode cX5_keep 15 = .ok (.aload_n 0, 1) := by decide +kernel
theorem dX5_keep_16 : decode cX5_keep 16 = .ok (.aload_n 0, 1) := by decide +kernel
theorem dX5_keep_17 : decode cX5_keep 17 = .ok (.getfield 22, 3) := by decide +kernel
theorem dX5_keep_20 : decode cX5_keep 20 = .ok (.putfield 25, 3) := by decide +kernel
theorem dX5_keep_23 : decode cX5_keep 23 = .ok (.iconst (-1), 1) := by decide +kernel
theorem dX5_keep_24 : decode cX5_keep 24 = .ok (.ireturn, 1) := by decide +kernel
theorem dX5_number_0 : decode cX5_number 0 = .ok (.iload_n 1, 1) := by decide +kernel
theorem dX5_number_1 : decode cX5_number 1 = .ok (.lookupswitch 37 #[(0, 27), (1, 32)], 27) := by decide +kernel
theorem dX5_number_28 : decode cX5_number 28 = .ok (.aload_n 0, 1) := by decide +kernel
theorem dX5_number_29 : decode cX5_number 29 = .ok (.getfield 15, 3) := by decide +kernel
theorem dX5_number_32 : decode cX5_number 32 = .ok (.ireturn, 1) := by decide +kernel
theorem dX5_number_33 : decode cX5_number 33 = .ok (.aload_n 0, 1) := by decide +kernel
theorem dX5_number_34 : decode cX5_number 34 = .ok (.getfield 19, 3) := by decide +kernel
theorem dX5_number_37 : decode cX5_number 37 = .ok (.ireturn, 1) := by decide +kernel
theorem dX5_number_38 : decode cX5_number 38 = .ok (.aload_n 0, 1) := by decide +kernel
theorem dX5_number_39 : decode cX5_number 39 = .ok (.getfield 25, 3) := by decide +kernel
theorem dX5_number_42 : decode cX5_number 42 = .ok (.ireturn, 1) := by decide +kernel
theorem dX6_init_0 : decode cX6_init 0 = .ok (.aload_n 0, 1) := by decide +kernel
theorem dX6_init_1 : decode cX6_init 1 = .ok (.invokespecial 3, 3) := by decide +kernel
theorem dX6_init_4 : decode cX6_init 4 = .ok (.aload_n 0, 1) := by decide +kernel
theorem dX6_init_5 : decode cX6_init 5 = .ok (.bipush 60, 2) := by decide +kernel
theorem dX6_init_7 : decode cX6_init 7 = .ok (.newarray .char, 2) := by decide +kernel
theorem dX6_init_9 : decode cX6_init 9 = .ok (.putfield 9, 3) := by decide +kernel
theorem dX6_init_12 : decode cX6_init 12 = .ok (.aload_n 0, 1) := by decide +kernel
theorem dX6_init_13 : decode cX6_init 13 = .ok (.iconst (-1), 1) := by decide +kernel
theorem dX6_init_14 : decode cX6_init 14 = .ok (.putfield 15, 3) := by decide +kernel
theorem dX6_init_17 : decode cX6_init 17 = .ok (.return_, 1) := by decide +kernel
theorem dX6_add_0 : decode cX6_add 0 = .ok (.aload_n 0, 1) := by decide +kernel
theorem dX6_add_1 : decode cX6_add 1 = .ok (.getfield 19, 3) := by decide +kernel
theorem dX6_add_4 : decode cX6_add 4 = .ok (.aload_n 0, 1) := by decide +kernel
theorem dX6_add_5 : decode cX6_add 5 = .ok (.getfield 9, 3) := by decide +kernel
theorem dX6_add_8 : decode cX6_add 8 = .ok (.arraylength, 1) := by decide +kernel
theorem dX6_add_9 : decode cX6_add 9 = .ok (.if_icmp .ge 23, 3) := by decide +kernel
theorem dX6_add_12 : decode cX6_add 12 = .ok (.aload_n 0, 1) := by decide +kernel
theorem dX6_add_13 : decode cX6_add 13 = .ok (.getfield 9, 3) := by decide +kernel
theorem dX6_add_16 : decode cX6_add 16 = .ok (.aload_n 0, 1) := by decide +kernel
theorem dX6_add_17 : decode cX6_add 17 = .ok (.getfield 19, 3) := by decide +kernel
theorem dX6_add_20 : decode cX6_add 20 = .ok (.iload_n 1, 1) := by decide +kernel
theorem dX6_add_21 : decode cX6_add 21 = .ok (.castore, 1) := by decide +kernel
theorem dX6_add_22 : decode cX6_add 22 = .ok (.aload_n 0, 1) := by decide +kernel
theorem dX6_add_23 : decode cX6_add 23 = .ok (.dup, 1) := by decide +kernel
theorem dX6_add_24 : decode cX6_add 24 = .ok (.getfield 19, 3) := by decide +kernel
theorem dX6_add_27 : decode cX6_add 27 = .ok (.iconst 1, 1) := by decide +kernel
theorem dX6_add_28 : decode cX6_add 28 = .ok (.iadd, 1) := by decide +kernel
theorem dX6_add_29 : decode cX6_add 29 = .ok (.putfield 19, 3) := by decide +kernel
theorem dX6_add_32 : decode cX6_add 32 = .ok (.return_, 1) := by decide +kernel
theorem dX6_empty_0 : decode cX6_empty 0 = .ok (.aload_n 0, 1) := by decide +kernel
theorem dX6_empty_1 : decode cX6_empty 1 = .ok (.iconst 0, 1) := by decide +kernel
theorem dX6_empty_2 : decode cX6_empty 2 = .ok (.putfield 19, 3) := by decide +kernel
theorem dX6_empty_5 : decode cX6_empty 5 = .ok (.return_, 1) := by decide +kernel
theorem dX6_rewind_0 : decode cX6_rewind 0 = .ok (.aload_n 0, 1) := by decide +kernel
theorem dX6_rewind_1 : decode cX6_rewind 1 = .ok (.iconst 0, 1) := by decide +kernel
theorem dX6_rewind_2 : decode cX6_rewind 2 = .ok (.putfield 22, 3) := by decide +kernel
theorem dX6_rewind_5 : decode cX6_rewind 5 = .ok (.return_, 1) := by decide +kernel
theorem dX6_pass_0 : decode cX6_pass 0 = .ok (.aload_n 0, 1) := by decide +kernel
theorem dX6_pass_1 : decode cX6_pass 1 = .ok (.dup, 1) := by decide +kernel
theorem dX6_pass_2 : decode cX6_pass 2 = .ok (.getfield 22, 3) := by decide +kernel
theorem dX6_pass_5 : decode cX6_pass 5 = .ok (.iconst 1, 1) := by decide +kernel
theorem dX6_pass_6 : decode cX6_pass 6 = .ok (.iadd, 1) := by decide +kernel
theorem dX6_pass_7 : decode cX6_pass 7 = .ok (.putfield 22, 3) := by decide +kernel
theorem dX6_pass_10 : decode cX6_pass 10 = .ok (.return_, 1) := by decide +kernel
theorem dX6_examine_0 : decode cX6_examine 0 = .ok (.aload_n 0, 1) := by decide +kernel
theorem dX6_examine_1 : decode cX6_examine 1 = .ok (.invokevirtual 25, 3) := by decide +kernel
theorem dX6_examine_4 : decode cX6_examine 4 = .ok (.aload_n 0, 1) := by decide +kernel
theorem dX6_examine_5 : decode cX6_examine 5 = .ok (.aload_n 0, 1) := by decide +kernel
theorem dX6_examine_6 : decode cX6_examine 6 = .ok (.invokevirtual 28, 3) := by decide +kernel
theorem dX6_examine_9 : decode cX6_examine 9 = .ok (.putfield 15, 3) := by decide +kernel
theorem dX6_examine_12 : decode cX6_examine 12 = .ok (.return_, 1) := by decide +kernel
theorem dX6_findFault_0 : decode cX6_findFault 0 = .ok (.iconst 1, 1) := by decide +kernel
theorem dX6_findFault_1 : decode cX6_findFault 1 = .ok (.istore_n 1, 1) := by decide +kernel
theorem dX6_findFault_2 : decode cX6_findFault 2 = .ok (.iload_n 1, 1) := by decide +kernel
theorem dX6_findFault_3 : decode cX6_findFault 3 = .ok (.bipush 60, 2) := by decide +kernel
theorem dX6_findFault_5 : decode cX6_findFault 5 = .ok (.if_icmp .gt 57, 3) := by decide +kernel
theorem dX6_findFault_8 : decode cX6_findFault 8 = .ok (.aload_n 0, 1) := by decide +kernel
theorem dX6_findFault_9 : decode cX6_findFault 9 = .ok (.invokevirtual 32, 3) := by decide +kernel
theorem dX6_findFault_12 : decode cX6_findFault 12 = .ok (.ifCond .ne 8, 3) := by decide +kernel
theorem dX6_findFault_15 : decode cX6_findFault 15 = .ok (.aload_n 0, 1) := by decide +kernel
theorem dX6_findFault_16 : decode cX6_findFault 16 = .ok (.getfield 22, 3) := by decide +kernel
theorem dX6_findFault_19 : decode cX6_findFault 19 = .ok (.ireturn, 1) := by decide +kernel
theorem dX6_findFault_20 : decode cX6_findFault 20 = .ok (.aload_n 0, 1) := by decide +kernel
theorem dX6_findFault_21 : decode cX6_findFault 21 = .ok (.getfield 22, 3) := by decide +kernel
theorem dX6_findFault_24 : decode cX6_findFault 24 = .ok (.aload_n 0, 1) := by decide +kernel
end
section
theorem dX6_findFault_25 : decode cX6_findFault 25 = .ok (.getfield 19, 3) := by decide +kernel
theorem dX6_findFault_28 : decode cX6_findFault 28 = .ok (.if_icmp .ne 10, 3) := by decide +kernel
theorem dX6_findFault_31 : decode cX6_findFault 31 = .ok (.aload_n 0, 1) := by decide +kernel
theorem dX6_findFault_32 : decode cX6_findFault 32 = .ok (.iload_n 1, 1) := by decide +kernel
theorem dX6_findFault_33 : decode cX6_findFault 33 = .ok (.putfield 36, 3) := by decide +kernel
theorem dX6_findFault_36 : decode cX6_findFault 36 = .ok (.iconst (-1), 1) := by decide +kernel
theorem dX6_findFault_37 : decode cX6_findFault 37 = .ok (.ireturn, 1) := by decide +kernel
theorem dX6_findFault_38 : decode cX6_findFault 38 = .ok (.aload_n 0, 1) := by decide +kernel
theorem dX6_findFault_39 : decode cX6_findFault 39 = .ok (.invokevirtual 39, 3) := by decide +kernel
theorem dX6_findFault_42 : decode cX6_findFault 42 = .ok (.bipush 59, 2) := by decide +kernel
theorem dX6_findFault_44 : decode cX6_findFault 44 = .ok (.if_icmp .eq 8, 3) := by decide +kernel
theorem dX6_findFault_47 : decode cX6_findFault 47 = .ok (.aload_n 0, 1) := by decide +kernel
theorem dX6_findFault_48 : decode cX6_findFault 48 = .ok (.getfield 22, 3) := by decide +kernel
theorem dX6_findFault_51 : decode cX6_findFault 51 = .ok (.ireturn, 1) := by decide +kernel
theorem dX6_findFault_52 : decode cX6_findFault 52 = .ok (.aload_n 0, 1) := by decide +kernel
theorem dX6_findFault_53 : decode cX6_findFault 53 = .ok (.invokevirtual 43, 3) := by decide +kernel
theorem dX6_findFault_56 : decode cX6_findFault 56 = .ok (.iinc 1 1, 3) := by decide +kernel
theorem dX6_findFault_59 : decode cX6_findFault 59 = .ok (.goto (-57), 3) := by decide +kernel
theorem dX6_findFault_62 : decode cX6_findFault 62 = .ok (.aload_n 0, 1) := by decide +kernel
theorem dX6_findFault_63 : decode cX6_findFault 63 = .ok (.getfield 22, 3) := by decide +kernel
theorem dX6_findFault_66 : decode cX6_findFault 66 = .ok (.ireturn, 1) := by decide +kernel
theorem dX6_readCommand_0 : decode cX6_readCommand 0 = .ok (.aload_n 0, 1) := by decide +kernel
theorem dX6_readCommand_1 : decode cX6_readCommand 1 = .ok (.aload_n 0, 1) := by decide +kernel
theorem dX6_readCommand_2 : decode cX6_readCommand 2 = .ok (.invokevirtual 39, 3) := by decide +kernel
theorem dX6_readCommand_5 : decode cX6_readCommand 5 = .ok (.putfield 46, 3) := by decide +kernel
theorem dX6_readCommand_8 : decode cX6_readCommand 8 = .ok (.aload_n 0, 1) := by decide +kernel
theorem dX6_readCommand_9 : decode cX6_readCommand 9 = .ok (.getfield 46, 3) := by decide +kernel
theorem dX6_readCommand_12 : decode cX6_readCommand 12 = .ok (.tableswitch 206 97 120 #[118, 145, 206, 112, 206, 118, 206, 172, 206, 206, 206, 145, 206, 145, 145, 206, 206, 206, 145, 145, 206, 206, 118, 145], 112) := by decide +kernel
theorem dX6_readCommand_124 : decode cX6_readCommand 124 = .ok (.aload_n 0, 1) := by decide +kernel
theorem dX6_readCommand_125 : decode cX6_readCommand 125 = .ok (.invokevirtual 43, 3) := by decide +kernel
theorem dX6_readCommand_128 : decode cX6_readCommand 128 = .ok (.iconst 1, 1) := by decide +kernel
theorem dX6_readCommand_129 : decode cX6_readCommand 129 = .ok (.ireturn, 1) := by decide +kernel
theorem dX6_readCommand_130 : decode cX6_readCommand 130 = .ok (.aload_n 0, 1) := by decide +kernel
theorem dX6_readCommand_131 : decode cX6_readCommand 131 = .ok (.invokevirtual 43, 3) := by decide +kernel
theorem dX6_readCommand_134 : decode cX6_readCommand 134 = .ok (.aload_n 0, 1) := by decide +kernel
theorem dX6_readCommand_135 : decode cX6_readCommand 135 = .ok (.aload_n 0, 1) := by decide +kernel
theorem dX6_readCommand_136 : decode cX6_readCommand 136 = .ok (.iconst 1, 1) := by decide +kernel
theorem dX6_readCommand_137 : decode cX6_readCommand 137 = .ok (.invokevirtual 50, 3) := by decide +kernel
theorem dX6_readCommand_140 : decode cX6_readCommand 140 = .ok (.putfield 54, 3) := by decide +kernel
theorem dX6_readCommand_143 : decode cX6_readCommand 143 = .ok (.aload_n 0, 1) := by decide +kernel
theorem dX6_readCommand_144 : decode cX6_readCommand 144 = .ok (.getfield 54, 3) := by decide +kernel
theorem dX6_readCommand_147 : decode cX6_readCommand 147 = .ok (.iconst (-1), 1) := by decide +kernel
theorem dX6_readCommand_148 : decode cX6_readCommand 148 = .ok (.if_icmp .eq 7, 3) := by decide +kernel
theorem dX6_readCommand_151 : decode cX6_readCommand 151 = .ok (.iconst 1, 1) := by decide +kernel
theorem dX6_readCommand_152 : decode cX6_readCommand 152 = .ok (.goto 4, 3) := by decide +kernel
theorem dX6_readCommand_155 : decode cX6_readCommand 155 = .ok (.iconst 0, 1) := by decide +kernel
theorem dX6_readCommand_156 : decode cX6_readCommand 156 = .ok (.ireturn, 1) := by decide +kernel
theorem dX6_readCommand_157 : decode cX6_readCommand 157 = .ok (.aload_n 0, 1) := by decide +kernel
theorem dX6_readCommand_158 : decode cX6_readCommand 158 = .ok (.invokevirtual 43, 3) := by decide +kernel
theorem dX6_readCommand_161 : decode cX6_readCommand 161 = .ok (.aload_n 0, 1) := by decide +kernel
theorem dX6_readCommand_162 : decode cX6_readCommand 162 = .ok (.aload_n 0, 1) := by decide +kernel
theorem dX6_readCommand_163 : decode cX6_readCommand 163 = .ok (.iconst 2, 1) := by decide +kernel
theorem dX6_readCommand_164 : decode cX6_readCommand 164 = .ok (.invokevirtual 50, 3) := by decide +kernel
theorem dX6_readCommand_167 : decode cX6_readCommand 167 = .ok (.putfield 54, 3) := by decide +kernel
theorem dX6_readCommand_170 : decode cX6_readCommand 170 = .ok (.aload_n 0, 1) := by decide +kernel
theorem dX6_readCommand_171 : decode cX6_readCommand 171 = .ok (.getfield 54, 3) := by decide +kernel
theorem dX6_readCommand_174 : decode cX6_readCommand 174 = .ok (.iconst (-1), 1) := by decide +kernel
theorem dX6_readCommand_175 : decode cX6_readCommand 175 = .ok (.if_icmp .eq 7, 3) := by decide +kernel
theorem dX6_readCommand_178 : decode cX6_readCommand 178 = .ok (.iconst 1, 1) := by decide +kernel
theorem dX6_readCommand_179 : decode cX6_readCommand 179 = .ok (.goto 4, 3) := by decide +kernel
theorem dX6_readCommand_182 : decode cX6_readCommand 182 = .ok (.iconst 0, 1) := by decide +kernel
theorem dX6_readCommand_183 : decode cX6_readCommand 183 = .ok (.ireturn, 1) := by decide +kernel
theorem dX6_readCommand_184 : decode cX6_readCommand 184 = .ok (.aload_n 0, 1) := by decide +kernel
theorem dX6_readCommand_185 : decode cX6_readCommand 185 = .ok (.invokevirtual 43, 3) := by decide +kernel
theorem dX6_readCommand_188 : decode cX6_readCommand 188 = .ok (.aload_n 0, 1) := by decide +kernel
theorem dX6_readCommand_189 : decode cX6_readCommand 189 = .ok (.aload_n 0, 1) := by decide +kernel
theorem dX6_readCommand_190 : decode cX6_readCommand 190 = .ok (.iconst 2, 1) := by decide +kernel
theorem dX6_readCommand_191 : decode cX6_readCommand 191 = .ok (.invokevirtual 50, 3) := by decide +kernel
theorem dX6_readCommand_194 : decode cX6_readCommand 194 = .ok (.putfield 54, 3) := by decide +kernel
theorem dX6_readCommand_197 : decode cX6_readCommand 197 = .ok (.aload_n 0, 1) := by decide +kernel
theorem dX6_readCommand_198 : decode cX6_readCommand 198 = .ok (.getfield 54, 3) := by decide +kernel
theorem dX6_readCommand_201 : decode cX6_readCommand 201 = .ok (.iconst (-1), 1) := by decide +kernel
theorem dX6_readCommand_202 : decode cX6_readCommand 202 = .ok (.if_icmp .eq 14, 3) := by decide +kernel
theorem dX6_readCommand_205 : decode cX6_readCommand 205 = .ok (.aload_n 0, 1) := by decide +kernel
theorem dX6_readCommand_206 : decode cX6_readCommand 206 = .ok (.invokevirtual 57, 3) := by decide +kernel
theorem dX6_readCommand_209 : decode cX6_readCommand 209 = .ok (.ifCond .eq 7, 3) := by decide +kernel
theorem dX6_readCommand_212 : decode cX6_readCommand 212 = .ok (.iconst 1, 1) := by decide +kernel
theorem dX6_readCommand_213 : decode cX6_readCommand 213 = .ok (.goto 4, 3) := by decide +kernel
theorem dX6_readCommand_216 : decode cX6_readCommand 216 = .ok (.iconst 0, 1) := by decide +kernel
theorem dX6_readCommand_217 : decode cX6_readCommand 217 = .ok (.ireturn, 1) := by decide +kernel
theorem dX6_readCommand_218 : decode cX6_readCommand 218 = .ok (.iconst 0, 1) := by decide +kernel
theorem dX6_readCommand_219 : decode cX6_readCommand 219 = .ok (.ireturn, 1) := by decide +kernel
theorem dX6_readHook_0 : decode cX6_readHook 0 = .ok (.aload_n 0, 1) := by decide +kernel
theorem dX6_readHook_1 : decode cX6_readHook 1 = .ok (.invokevirtual 39, 3) := by decide +kernel
theorem dX6_readHook_4 : decode cX6_readHook 4 = .ok (.bipush 47, 2) := by decide +kernel
theorem dX6_readHook_6 : decode cX6_readHook 6 = .ok (.if_icmp .eq 5, 3) := by decide +kernel
theorem dX6_readHook_9 : decode cX6_readHook 9 = .ok (.iconst 0, 1) := by decide +kernel
theorem dX6_readHook_10 : decode cX6_readHook 10 = .ok (.ireturn, 1) := by decide +kernel
theorem dX6_readHook_11 : decode cX6_readHook 11 = .ok (.aload_n 0, 1) := by decide +kernel
theorem dX6_readHook_12 : decode cX6_readHook 12 = .ok (.invokevirtual 43, 3) := by decide +kernel
theorem dX6_readHook_15 : decode cX6_readHook 15 = .ok (.aload_n 0, 1) := by decide +kernel
theorem dX6_readHook_16 : decode cX6_readHook 16 = .ok (.aload_n 0, 1) := by decide +kernel
theorem dX6_readHook_17 : decode cX6_readHook 17 = .ok (.iconst 1, 1) := by decide +kernel
theorem dX6_readHook_18 : decode cX6_readHook 18 = .ok (.invokevirtual 50, 3) := by decide +kernel
theorem dX6_readHook_21 : decode cX6_readHook 21 = .ok (.putfield 60, 3) := by decide +kernel
theorem dX6_readHook_24 : decode cX6_readHook 24 = .ok (.aload_n 0, 1) := by decide +kernel
theorem dX6_readHook_25 : decode cX6_readHook 25 = .ok (.getfield 60, 3) := by decide +kernel
theorem dX6_readHook_28 : decode cX6_readHook 28 = .ok (.iconst (-1), 1) := by decide +kernel
theorem dX6_readHook_29 : decode cX6_readHook 29 = .ok (.if_icmp .ne 5, 3) := by decide +kernel
theorem dX6_readHook_32 : decode cX6_readHook 32 = .ok (.iconst 0, 1) := by decide +kernel
theorem dX6_readHook_33 : decode cX6_readHook 33 = .ok (.ireturn, 1) := by decide +kernel
theorem dX6_readHook_34 : decode cX6_readHook 34 = .ok (.aload_n 0, 1) := by decide +kernel
theorem dX6_readHook_35 : decode cX6_readHook 35 = .ok (.aload_n 0, 1) := by decide +kernel
theorem dX6_readHook_36 : decode cX6_readHook 36 = .ok (.iconst 1, 1) := by decide +kernel
theorem dX6_readHook_37 : decode cX6_readHook 37 = .ok (.invokevirtual 50, 3) := by decide +kernel
theorem dX6_readHook_40 : decode cX6_readHook 40 = .ok (.putfield 63, 3) := by decide +kernel
theorem dX6_readHook_43 : decode cX6_readHook 43 = .ok (.aload_n 0, 1) := by decide +kernel
theorem dX6_readHook_44 : decode cX6_readHook 44 = .ok (.getfield 63, 3) := by decide +kernel
theorem dX6_readHook_47 : decode cX6_readHook 47 = .ok (.iconst (-1), 1) := by decide +kernel
theorem dX6_readHook_48 : decode cX6_readHook 48 = .ok (.if_icmp .eq 7, 3) := by decide +kernel
theorem dX6_readHook_51 : decode cX6_readHook 51 = .ok (.iconst 1, 1) := by decide +kernel
theorem dX6_readHook_52 : decode cX6_readHook 52 = .ok (.goto 4, 3) := by decide +kernel
theorem dX6_readHook_55 : decode cX6_readHook 55 = .ok (.iconst 0, 1) := by decide +kernel
theorem dX6_readHook_56 : decode cX6_readHook 56 = .ok (.ireturn, 1) := by decide +kernel
theorem dX6_readNumber_0 : decode cX6_readNumber 0 = .ok (.aload_n 0, 1) := by decide +kernel
theorem dX6_readNumber_1 : decode cX6_readNumber 1 = .ok (.invokevirtual 39, 3) := by decide +kernel
theorem dX6_readNumber_4 : decode cX6_readNumber 4 = .ok (.invokestatic 66, 3) := by decide +kernel
theorem dX6_readNumber_7 : decode cX6_readNumber 7 = .ok (.ifCond .ne 5, 3) := by decide +kernel
theorem dX6_readNumber_10 : decode cX6_readNumber 10 = .ok (.iconst (-1), 1) := by decide +kernel
theorem dX6_readNumber_11 : decode cX6_readNumber 11 = .ok (.ireturn, 1) := by decide +kernel
theorem dX6_readNumber_12 : decode cX6_readNumber 12 = .ok (.iconst 0, 1) := by decide +kernel
theorem dX6_readNumber_13 : decode cX6_readNumber 13 = .ok (.istore_n 2, 1) := by decide +kernel
theorem dX6_readNumber_14 : decode cX6_readNumber 14 = .ok (.iconst 0, 1) := by decide +kernel
theorem dX6_readNumber_15 : decode cX6_readNumber 15 = .ok (.istore_n 3, 1) := by decide +kernel
theorem dX6_readNumber_16 : decode cX6_readNumber 16 = .ok (.iload_n 3, 1) := by decide +kernel
theorem dX6_readNumber_17 : decode cX6_readNumber 17 = .ok (.iload_n 1, 1) := by decide +kernel
theorem dX6_readNumber_18 : decode cX6_readNumber 18 = .ok (.if_icmp .ge 36, 3) := by decide +kernel
theorem dX6_readNumber_21 : decode cX6_readNumber 21 = .ok (.aload_n 0, 1) := by decide +kernel
theorem dX6_readNumber_22 : decode cX6_readNumber 22 = .ok (.invokevirtual 39, 3) := by decide +kernel
theorem dX6_readNumber_25 : decode cX6_readNumber 25 = .ok (.invokestatic 66, 3) := by decide +kernel
theorem dX6_readNumber_28 : decode cX6_readNumber 28 = .ok (.ifCond .eq 26, 3) := by decide +kernel
theorem dX6_readNumber_31 : decode cX6_readNumber 31 = .ok (.iload_n 2, 1) := by decide +kernel
theorem dX6_readNumber_32 : decode cX6_readNumber 32 = .ok (.bipush 10, 2) := by decide +kernel
theorem dX6_readNumber_34 : decode cX6_readNumber 34 = .ok (.imul, 1) := by decide +kernel
theorem dX6_readNumber_35 : decode cX6_readNumber 35 = .ok (.aload_n 0, 1) := by decide +kernel
theorem dX6_readNumber_36 : decode cX6_readNumber 36 = .ok (.invokevirtual 39, 3) := by decide +kernel
theorem dX6_readNumber_39 : decode cX6_readNumber 39 = .ok (.bipush 48, 2) := by decide +kernel
theorem dX6_readNumber_41 : decode cX6_readNumber 41 = .ok (.isub, 1) := by decide +kernel
theorem dX6_readNumber_42 : decode cX6_readNumber 42 = .ok (.iadd, 1) := by decide +kernel
theorem dX6_readNumber_43 : decode cX6_readNumber 43 = .ok (.istore_n 2, 1) := by decide +kernel
theorem dX6_readNumber_44 : decode cX6_readNumber 44 = .ok (.aload_n 0, 1) := by decide +kernel
theorem dX6_readNumber_45 : decode cX6_readNumber 45 = .ok (.invokevirtual 43, 3) := by decide +kernel
theorem dX6_readNumber_48 : decode cX6_readNumber 48 = .ok (.iinc 3 1, 3) := by decide +kernel
theorem dX6_readNumber_51 : decode cX6_readNumber 51 = .ok (.goto (-35), 3) := by decide +kernel
theorem dX6_readNumber_54 : decode cX6_readNumber 54 = .ok (.iload_n 2, 1) := by decide +kernel
theorem dX6_readNumber_55 : decode cX6_readNumber 55 = .ok (.ireturn, 1) := by decide +kernel
theorem dX6_signNow_0 : decode cX6_signNow 0 = .ok (.aload_n 0, 1) := by decide +kernel
theorem dX6_signNow_1 : decode cX6_signNow 1 = .ok (.getfield 22, 3) := by decide +kernel
theorem dX6_signNow_4 : decode cX6_signNow 4 = .ok (.ifCond .lt 38, 3) := by decide +kernel
theorem dX6_signNow_7 : decode cX6_signNow 7 = .ok (.aload_n 0, 1) := by decide +kernel
theorem dX6_signNow_8 : decode cX6_signNow 8 = .ok (.getfield 22, 3) := by decide +kernel
theorem dX6_signNow_11 : decode cX6_signNow 11 = .ok (.aload_n 0, 1) := by decide +kernel
theorem dX6_signNow_12 : decode cX6_signNow 12 = .ok (.getfield 19, 3) := by decide +kernel
theorem dX6_signNow_15 : decode cX6_signNow 15 = .ok (.if_icmp .ge 27, 3) := by decide +kernel
theorem dX6_signNow_18 : decode cX6_signNow 18 = .ok (.aload_n 0, 1) := by decide +kernel
theorem dX6_signNow_19 : decode cX6_signNow 19 = .ok (.getfield 22, 3) := by decide +kernel
theorem dX6_signNow_22 : decode cX6_signNow 22 = .ok (.aload_n 0, 1) := by decide +kernel
theorem dX6_signNow_23 : decode cX6_signNow 23 = .ok (.getfield 9, 3) := by decide +kernel
theorem dX6_signNow_26 : decode cX6_signNow 26 = .ok (.arraylength, 1) := by decide +kernel
theorem dX6_signNow_27 : decode cX6_signNow 27 = .ok (.if_icmp .ge 15, 3) := by decide +kernel
theorem dX6_signNow_30 : decode cX6_signNow 30 = .ok (.aload_n 0, 1) := by decide +kernel
theorem dX6_signNow_31 : decode cX6_signNow 31 = .ok (.getfield 9, 3) := by decide +kernel
theorem dX6_signNow_34 : decode cX6_signNow 34 = .ok (.aload_n 0, 1) := by decide +kernel
theorem dX6_signNow_35 : decode cX6_signNow 35 = .ok (.getfield 22, 3) := by decide +kernel
theorem dX6_signNow_38 : decode cX6_signNow 38 = .ok (.caload, 1) := by decide +kernel
theorem dX6_signNow_39 : decode cX6_signNow 39 = .ok (.goto 4, 3) := by decide +kernel
theorem dX6_signNow_42 : decode cX6_signNow 42 = .ok (.iconst 0, 1) := by decide +kernel
theorem dX6_signNow_43 : decode cX6_signNow 43 = .ok (.ireturn, 1) := by decide +kernel
theorem dX6_isDigit_0 : decode cX6_isDigit 0 = .ok (.iload_n 0, 1) := by decide +kernel
theorem dX6_isDigit_1 : decode cX6_isDigit 1 = .ok (.bipush 48, 2) := by decide +kernel
theorem dX6_isDigit_3 : decode cX6_isDigit 3 = .ok (.if_icmp .lt 13, 3) := by decide +kernel
theorem dX6_isDigit_6 : decode cX6_isDigit 6 = .ok (.iload_n 0, 1) := by decide +kernel
theorem dX6_isDigit_7 : decode cX6_isDigit 7 = .ok (.bipush 57, 2) := by decide +kernel
theorem dX6_isDigit_9 : decode cX6_isDigit 9 = .ok (.if_icmp .gt 7, 3) := by decide +kernel
theorem dX6_isDigit_12 : decode cX6_isDigit 12 = .ok (.iconst 1, 1) := by decide +kernel
theorem dX6_isDigit_13 : decode cX6_isDigit 13 = .ok (.goto 4, 3) := by decide +kernel
theorem dX6_isDigit_16 : decode cX6_isDigit 16 = .ok (.iconst 0, 1) := by decide +kernel
theorem dX6_isDigit_17 : decode cX6_isDigit 17 = .ok (.ireturn, 1) := by decide +kernel
theorem dX7_init_0 : decode cX7_init 0 = .ok (.aload_n 0, 1) := by decide +kernel
theorem dX7_init_1 : decode cX7_init 1 = .ok (.invokespecial 3, 3) := by decide +kernel
theorem dX7_init_4 : decode cX7_init 4 = .ok (.return_, 1) := by decide +kernel
theorem dX7_copyFrom_0 : decode cX7_copyFrom 0 = .ok (.aload_n 0, 1) := by decide +kernel
theorem dX7_copyFrom_1 : decode cX7_copyFrom 1 = .ok (.aload_n 1, 1) := by decide +kernel
theorem dX7_copyFrom_2 : decode cX7_copyFrom 2 = .ok (.getfield 9, 3) := by decide +kernel
theorem dX7_copyFrom_5 : decode cX7_copyFrom 5 = .ok (.putfield 9, 3) := by decide +kernel
theorem dX7_copyFrom_8 : decode cX7_copyFrom 8 = .ok (.aload_n 0, 1) := by decide +kernel
theorem dX7_copyFrom_9 : decode cX7_copyFrom 9 = .ok (.aload_n 1, 1) := by decide +kernel
theorem dX7_copyFrom_10 : decode cX7_copyFrom 10 = .ok (.getfield 15, 3) := by decide +kernel
theorem dX7_copyFrom_13 : decode cX7_copyFrom 13 = .ok (.putfield 15, 3) := by decide +kernel
theorem dX7_copyFrom_16 : decode cX7_copyFrom 16 = .ok (.return_, 1) := by decide +kernel
theorem dX7_clear_0 : decode cX7_clear 0 = .ok (.aload_n 0, 1) := by decide +kernel
theorem dX7_clear_1 : decode cX7_clear 1 = .ok (.iconst 0, 1) := by decide +kernel
theorem dX7_clear_2 : decode cX7_clear 2 = .ok (.putfield 9, 3) := by decide +kernel
theorem dX7_clear_5 : decode cX7_clear 5 = .ok (.aload_n 0, 1) := by decide +kernel
theorem dX7_clear_6 : decode cX7_clear 6 = .ok (.iconst 0, 1) := by decide +kernel
theorem dX7_clear_7 : decode cX7_clear 7 = .ok (.putfield 15, 3) := by decide +kernel
theorem dX7_clear_10 : decode cX7_clear 10 = .ok (.return_, 1) := by decide +kernel
theorem dX7_addSmoke_0 : decode cX7_addSmoke 0 = .ok (.aload_n 0, 1) := by decide +kernel
theorem dX7_addSmoke_1 : decode cX7_addSmoke 1 = .ok (.bipush 40, 2) := by decide +kernel
theorem dX7_addSmoke_3 : decode cX7_addSmoke 3 = .ok (.aload_n 0, 1) := by decide +kernel
theorem dX7_addSmoke_4 : decode cX7_addSmoke 4 = .ok (.getfield 9, 3) := by decide +kernel
theorem dX7_addSmoke_7 : decode cX7_addSmoke 7 = .ok (.iload_n 1, 1) := by decide +kernel
theorem dX7_addSmoke_8 : decode cX7_addSmoke 8 = .ok (.iadd, 1) := by decide +kernel
theorem dX7_addSmoke_9 : decode cX7_addSmoke 9 = .ok (.invokestatic 18, 3) := by decide +kernel
theorem dX7_addSmoke_12 : decode cX7_addSmoke 12 = .ok (.putfield 9, 3) := by decide +kernel
theorem dX7_addSmoke_15 : decode cX7_addSmoke 15 = .ok (.return_, 1) := by decide +kernel
theorem dX7_addChar_0 : decode cX7_addChar 0 = .ok (.aload_n 0, 1) := by decide +kernel
theorem dX7_addChar_1 : decode cX7_addChar 1 = .ok (.bipush 9, 2) := by decide +kernel
theorem dX7_addChar_3 : decode cX7_addChar 3 = .ok (.aload_n 0, 1) := by decide +kernel
theorem dX7_addChar_4 : decode cX7_addChar 4 = .ok (.getfield 15, 3) := by decide +kernel
theorem dX7_addChar_7 : decode cX7_addChar 7 = .ok (.iload_n 1, 1) := by decide +kernel
theorem dX7_addChar_8 : decode cX7_addChar 8 = .ok (.iadd, 1) := by decide +kernel
theorem dX7_addChar_9 : decode cX7_addChar 9 = .ok (.invokestatic 18, 3) := by decide +kernel
theorem dX7_addChar_12 : decode cX7_addChar 12 = .ok (.putfield 15, 3) := by decide +kernel
theorem dX7_addChar_15 : decode cX7_addChar 15 = .ok (.return_, 1) := by decide +kernel
theorem dX7_isBurnt_0 : decode cX7_isBurnt 0 = .ok (.aload_n 0, 1) := by decide +kernel
theorem dX7_isBurnt_1 : decode cX7_isBurnt 1 = .ok (.getfield 15, 3) := by decide +kernel
theorem dX7_isBurnt_4 : decode cX7_isBurnt 4 = .ok (.bipush 9, 2) := by decide +kernel
theorem dX7_isBurnt_6 : decode cX7_isBurnt 6 = .ok (.if_icmp .ne 7, 3) := by decide +kernel
theorem dX7_isBurnt_9 : decode cX7_isBurnt 9 = .ok (.iconst 1, 1) := by decide +kernel
theorem dX7_isBurnt_10 : decode cX7_isBurnt 10 = .ok (.goto 4, 3) := by decide +kernel
theorem dX7_isBurnt_13 : decode cX7_isBurnt 13 = .ok (.iconst 0, 1) := by decide +kernel
theorem dX7_isBurnt_14 : decode cX7_isBurnt 14 = .ok (.ireturn, 1) := by decide +kernel
theorem dX8_init_0 : decode cX8_init 0 = .ok (.aload_n 0, 1) := by decide +kernel
theorem dX8_init_1 : decode cX8_init 1 = .ok (.invokespecial 3, 3) := by decide +kernel
theorem dX8_init_4 : decode cX8_init 4 = .ok (.aload_n 0, 1) := by decide +kernel
theorem dX8_init_5 : decode cX8_init 5 = .ok (.aload_n 1, 1) := by decide +kernel
theorem dX8_init_6 : decode cX8_init 6 = .ok (.putfield 9, 3) := by decide +kernel
theorem dX8_init_9 : decode cX8_init 9 = .ok (.aload_n 0, 1) := by decide +kernel
theorem dX8_init_10 : decode cX8_init 10 = .ok (.aload_n 2, 1) := by decide +kernel
theorem dX8_init_11 : decode cX8_init 11 = .ok (.putfield 15, 3) := by decide +kernel
theorem dX8_init_14 : decode cX8_init 14 = .ok (.return_, 1) := by decide +kernel
theorem dX8_letCome_0 : decode cX8_letCome 0 = .ok (.iload_n 1, 1) := by decide +kernel
theorem dX8_letCome_1 : decode cX8_letCome 1 = .ok (.iconst 1, 1) := by decide +kernel
theorem dX8_letCome_2 : decode cX8_letCome 2 = .ok (.if_icmp .lt 9, 3) := by decide +kernel
theorem dX8_letCome_5 : decode cX8_letCome 5 = .ok (.iload_n 1, 1) := by decide +kernel
theorem dX8_letCome_6 : decode cX8_letCome 6 = .ok (.bipush 9, 2) := by decide +kernel
theorem dX8_letCome_8 : decode cX8_letCome 8 = .ok (.if_icmp .le 13, 3) := by decide +kernel
theorem dX8_letCome_11 : decode cX8_letCome 11 = .ok (.aload_n 0, 1) := by decide +kernel
theorem dX8_letCome_12 : decode cX8_letCome 12 = .ok (.getfield 15, 3) := by decide +kernel
theorem dX8_letCome_15 : decode cX8_letCome 15 = .ok (.iconst 1, 1) := by decide +kernel
theorem dX8_letCome_16 : decode cX8_letCome 16 = .ok (.iconst 0, 1) := by decide +kernel
theorem dX8_letCome_17 : decode cX8_letCome 17 = .ok (.invokevirtual 19, 3) := by decide +kernel
theorem dX8_letCome_20 : decode cX8_letCome 20 = .ok (.ireturn, 1) := by decide +kernel
theorem dX8_letCome_21 : decode cX8_letCome 21 = .ok (.aload_n 0, 1) := by decide +kernel
theorem dX8_letCome_22 : decode cX8_letCome 22 = .ok (.getfield 9, 3) := by decide +kernel
theorem dX8_letCome_25 : decode cX8_letCome 25 = .ok (.getfield 25, 3) := by decide +kernel
theorem dX8_letCome_28 : decode cX8_letCome 28 = .ok (.bipush 12, 2) := by decide +kernel
theorem dX8_letCome_30 : decode cX8_letCome 30 = .ok (.if_icmp .lt 14, 3) := by decide +kernel
theorem dX8_letCome_33 : decode cX8_letCome 33 = .ok (.aload_n 0, 1) := by decide +kernel
theorem dX8_letCome_34 : decode cX8_letCome 34 = .ok (.getfield 15, 3) := by decide +kernel
theorem dX8_letCome_37 : decode cX8_letCome 37 = .ok (.iconst 2, 1) := by decide +kernel
theorem dX8_letCome_38 : decode cX8_letCome 38 = .ok (.bipush 12, 2) := by decide +kernel
theorem dX8_letCome_40 : decode cX8_letCome 40 = .ok (.invokevirtual 19, 3) := by decide +kernel
theorem dX8_letCome_43 : decode cX8_letCome 43 = .ok (.ireturn, 1) := by decide +kernel
theorem dX8_letCome_44 : decode cX8_letCome 44 = .ok (.aload_n 0, 1) := by decide +kernel
theorem dX8_letCome_45 : decode cX8_letCome 45 = .ok (.getfield 9, 3) := by decide +kernel
theorem dX8_letCome_48 : decode cX8_letCome 48 = .ok (.iload_n 1, 1) := by decide +kernel
theorem dX8_letCome_49 : decode cX8_letCome 49 = .ok (.invokevirtual 31, 3) := by decide +kernel
theorem dX8_letCome_52 : decode cX8_letCome 52 = .ok (.aload_n 0, 1) := by decide +kernel
theorem dX8_letCome_53 : decode cX8_letCome 53 = .ok (.getfield 9, 3) := by decide +kernel
theorem dX8_letCome_56 : decode cX8_letCome 56 = .ok (.getfield 25, 3) := by decide +kernel
theorem dX8_letCome_59 : decode cX8_letCome 59 = .ok (.iconst 1, 1) := by decide +kernel
theorem dX8_letCome_60 : decode cX8_letCome 60 = .ok (.isub, 1) := by decide +kernel
theorem dX8_letCome_61 : decode cX8_letCome 61 = .ok (.ireturn, 1) := by decide +kernel
theorem dX8_layIntoBrine_0 : decode cX8_layIntoBrine 0 = .ok (.aload_n 0, 1) := by decide +kernel
theorem dX8_layIntoBrine_1 : decode cX8_layIntoBrine 1 = .ok (.getfield 9, 3) := by decide +kernel
theorem dX8_layIntoBrine_4 : decode cX8_layIntoBrine 4 = .ok (.iload_n 1, 1) := by decide +kernel
theorem dX8_layIntoBrine_5 : decode cX8_layIntoBrine 5 = .ok (.invokevirtual 35, 3) := by decide +kernel
theorem dX8_layIntoBrine_8 : decode cX8_layIntoBrine 8 = .ok (.ifCond .ne 19, 3) := by decide +kernel
theorem dX8_layIntoBrine_11 : decode cX8_layIntoBrine 11 = .ok (.aload_n 0, 1) := by decide +kernel
theorem dX8_layIntoBrine_12 : decode cX8_layIntoBrine 12 = .ok (.getfield 15, 3) := by decide +kernel
theorem dX8_layIntoBrine_15 : decode cX8_layIntoBrine 15 = .ok (.iconst 3, 1) := by decide +kernel
theorem dX8_layIntoBrine_16 : decode cX8_layIntoBrine 16 = .ok (.aload_n 0, 1) := by decide +kernel
theorem dX8_layIntoBrine_17 : decode cX8_layIntoBrine 17 = .ok (.getfield 9, 3) := by decide +kernel
theorem dX8_layIntoBrine_20 : decode cX8_layIntoBrine 20 = .ok (.getfield 25, 3) := by decide +kernel
theorem dX8_layIntoBrine_23 : decode cX8_layIntoBrine 23 = .ok (.invokevirtual 19, 3) := by decide +kernel
theorem dX8_layIntoBrine_26 : decode cX8_layIntoBrine 26 = .ok (.ireturn, 1) := by decide +kernel
theorem dX8_layIntoBrine_27 : decode cX8_layIntoBrine 27 = .ok (.aload_n 0, 1) := by decide +kernel
theorem dX8_layIntoBrine_28 : decode cX8_layIntoBrine 28 = .ok (.getfield 9, 3) := by decide +kernel
theorem dX8_layIntoBrine_31 : decode cX8_layIntoBrine 31 = .ok (.iload_n 1, 1) := by decide +kernel
theorem dX8_layIntoBrine_32 : decode cX8_layIntoBrine 32 = .ok (.invokevirtual 39, 3) := by decide +kernel
theorem dX8_layIntoBrine_35 : decode cX8_layIntoBrine 35 = .ok (.astore_n 2, 1) := by decide +kernel
theorem dX8_layIntoBrine_36 : decode cX8_layIntoBrine 36 = .ok (.aload_n 2, 1) := by decide +kernel
theorem dX8_layIntoBrine_37 : decode cX8_layIntoBrine 37 = .ok (.getfield 43, 3) := by decide +kernel
theorem dX8_layIntoBrine_40 : decode cX8_layIntoBrine 40 = .ok (.ifCond .eq 16, 3) := by decide +kernel
theorem dX8_layIntoBrine_43 : decode cX8_layIntoBrine 43 = .ok (.aload_n 0, 1) := by decide +kernel
theorem dX8_layIntoBrine_44 : decode cX8_layIntoBrine 44 = .ok (.getfield 15, 3) := by decide +kernel
theorem dX8_layIntoBrine_47 : decode cX8_layIntoBrine 47 = .ok (.iconst 4, 1) := by decide +kernel
theorem dX8_layIntoBrine_48 : decode cX8_layIntoBrine 48 = .ok (.aload_n 2, 1) := by decide +kernel
theorem dX8_layIntoBrine_49 : decode cX8_layIntoBrine 49 = .ok (.getfield 43, 3) := by decide +kernel
theorem dX8_layIntoBrine_52 : decode cX8_layIntoBrine 52 = .ok (.invokevirtual 19, 3) := by decide +kernel
theorem dX8_layIntoBrine_55 : decode cX8_layIntoBrine 55 = .ok (.ireturn, 1) := by decide +kernel
theorem dX8_layIntoBrine_56 : decode cX8_layIntoBrine 56 = .ok (.aload_n 2, 1) := by decide +kernel
theorem dX8_layIntoBrine_57 : decode cX8_layIntoBrine 57 = .ok (.iconst 1, 1) := by decide +kernel
theorem dX8_layIntoBrine_58 : decode cX8_layIntoBrine 58 = .ok (.iconst (-1), 1) := by decide +kernel
theorem dX8_layIntoBrine_59 : decode cX8_layIntoBrine 59 = .ok (.iconst (-1), 1) := by decide +kernel
theorem dX8_layIntoBrine_60 : decode cX8_layIntoBrine 60 = .ok (.invokevirtual 48, 3) := by decide +kernel
theorem dX8_layIntoBrine_63 : decode cX8_layIntoBrine 63 = .ok (.aload_n 0, 1) := by decide +kernel
theorem dX8_layIntoBrine_64 : decode cX8_layIntoBrine 64 = .ok (.getfield 9, 3) := by decide +kernel
theorem dX8_layIntoBrine_67 : decode cX8_layIntoBrine 67 = .ok (.iconst 1, 1) := by decide +kernel
theorem dX8_layIntoBrine_68 : decode cX8_layIntoBrine 68 = .ok (.invokevirtual 52, 3) := by decide +kernel
theorem dX8_layIntoBrine_71 : decode cX8_layIntoBrine 71 = .ok (.ireturn, 1) := by decide +kernel
theorem dX8_takeOut_0 : decode cX8_takeOut 0 = .ok (.aload_n 0, 1) := by decide +kernel
theorem dX8_takeOut_1 : decode cX8_takeOut 1 = .ok (.getfield 9, 3) := by decide +kernel
theorem dX8_takeOut_4 : decode cX8_takeOut 4 = .ok (.iload_n 1, 1) := by decide +kernel
theorem dX8_takeOut_5 : decode cX8_takeOut 5 = .ok (.invokevirtual 35, 3) := by decide +kernel
theorem dX8_takeOut_8 : decode cX8_takeOut 8 = .ok (.ifCond .ne 19, 3) := by decide +kernel
theorem dX8_takeOut_11 : decode cX8_takeOut 11 = .ok (.aload_n 0, 1) := by decide +kernel
theorem dX8_takeOut_12 : decode cX8_takeOut 12 = .ok (.getfield 15, 3) := by decide +kernel
theorem dX8_takeOut_15 : decode cX8_takeOut 15 = .ok (.iconst 3, 1) := by decide +kernel
theorem dX8_takeOut_16 : decode cX8_takeOut 16 = .ok (.aload_n 0, 1) := by decide +kernel
theorem dX8_takeOut_17 : decode cX8_takeOut 17 = .ok (.getfield 9, 3) := by decide +kernel
theorem dX8_takeOut_20 : decode cX8_takeOut 20 = .ok (.getfield 25, 3) := by decide +kernel
theorem dX8_takeOut_23 : decode cX8_takeOut 23 = .ok (.invokevirtual 19, 3) := by decide +kernel
theorem dX8_takeOut_26 : decode cX8_takeOut 26 = .ok (.ireturn, 1) := by decide +kernel
theorem dX8_takeOut_27 : decode cX8_takeOut 27 = .ok (.aload_n 0, 1) := by decide +kernel
theorem dX8_takeOut_28 : decode cX8_takeOut 28 = .ok (.getfield 9, 3) := by decide +kernel
theorem dX8_takeOut_31 : decode cX8_takeOut 31 = .ok (.iload_n 1, 1) := by decide +kernel
theorem dX8_takeOut_32 : decode cX8_takeOut 32 = .ok (.invokevirtual 39, 3) := by decide +kernel
theorem dX8_takeOut_35 : decode cX8_takeOut 35 = .ok (.astore_n 2, 1) := by decide +kernel
theorem dX8_takeOut_36 : decode cX8_takeOut 36 = .ok (.aload_n 2, 1) := by decide +kernel
theorem dX8_takeOut_37 : decode cX8_takeOut 37 = .ok (.getfield 43, 3) := by decide +kernel
theorem dX8_takeOut_40 : decode cX8_takeOut 40 = .ok (.ifCond .ne 13, 3) := by decide +kernel
theorem dX8_takeOut_43 : decode cX8_takeOut 43 = .ok (.aload_n 0, 1) := by decide +kernel
theorem dX8_takeOut_44 : decode cX8_takeOut 44 = .ok (.getfield 15, 3) := by decide +kernel
theorem dX8_takeOut_47 : decode cX8_takeOut 47 = .ok (.iconst 5, 1) := by decide +kernel
theorem dX8_takeOut_48 : decode cX8_takeOut 48 = .ok (.iload_n 1, 1) := by decide +kernel
theorem dX8_takeOut_49 : decode cX8_takeOut 49 = .ok (.invokevirtual 19, 3) := by decide +kernel
theorem dX8_takeOut_52 : decode cX8_takeOut 52 = .ok (.ireturn, 1) := by decide +kernel
theorem dX8_takeOut_53 : decode cX8_takeOut 53 = .ok (.aload_n 2, 1) := by decide +kernel
theorem dX8_takeOut_54 : decode cX8_takeOut 54 = .ok (.iconst 0, 1) := by decide +kernel
theorem dX8_takeOut_55 : decode cX8_takeOut 55 = .ok (.iconst (-1), 1) := by decide +kernel
theorem dX8_takeOut_56 : decode cX8_takeOut 56 = .ok (.iconst (-1), 1) := by decide +kernel
theorem dX8_takeOut_57 : decode cX8_takeOut 57 = .ok (.invokevirtual 48, 3) := by decide +kernel
theorem dX8_takeOut_60 : decode cX8_takeOut 60 = .ok (.aload_n 2, 1) := by decide +kernel
theorem dX8_takeOut_61 : decode cX8_takeOut 61 = .ok (.getfield 56, 3) := by decide +kernel
theorem dX8_takeOut_64 : decode cX8_takeOut 64 = .ok (.ireturn, 1) := by decide +kernel
theorem dX8_hangUp_0 : decode cX8_hangUp 0 = .ok (.iload_n 2, 1) := by decide +kernel
theorem dX8_hangUp_1 : decode cX8_hangUp 1 = .ok (.invokestatic 59, 3) := by decide +kernel
theorem dX8_hangUp_4 : decode cX8_hangUp 4 = .ok (.ifCond .eq 10, 3) := by decide +kernel
theorem dX8_hangUp_7 : decode cX8_hangUp 7 = .ok (.iload_n 3, 1) := by decide +kernel
theorem dX8_hangUp_8 : decode cX8_hangUp 8 = .ok (.invokestatic 62, 3) := by decide +kernel
theorem dX8_hangUp_11 : decode cX8_hangUp 11 = .ok (.ifCond .ne 13, 3) := by decide +kernel
theorem dX8_hangUp_14 : decode cX8_hangUp 14 = .ok (.aload_n 0, 1) := by decide +kernel
theorem dX8_hangUp_15 : decode cX8_hangUp 15 = .ok (.getfield 15, 3) := by decide +kernel
theorem dX8_hangUp_18 : decode cX8_hangUp 18 = .ok (.iconst 1, 1) := by decide +kernel
theorem dX8_hangUp_19 : decode cX8_hangUp 19 = .ok (.iconst 0, 1) := by decide +kernel
theorem dX8_hangUp_20 : decode cX8_hangUp 20 = .ok (.invokevirtual 19, 3) := by decide +kernel
theorem dX8_hangUp_23 : decode cX8_hangUp 23 = .ok (.ireturn, 1) := by decide +kernel
theorem dX8_hangUp_24 : decode cX8_hangUp 24 = .ok (.aload_n 0, 1) := by decide +kernel
theorem dX8_hangUp_25 : decode cX8_hangUp 25 = .ok (.getfield 9, 3) := by decide +kernel
theorem dX8_hangUp_28 : decode cX8_hangUp 28 = .ok (.iload_n 1, 1) := by decide +kernel
theorem dX8_hangUp_29 : decode cX8_hangUp 29 = .ok (.invokevirtual 35, 3) := by decide +kernel
theorem dX8_hangUp_32 : decode cX8_hangUp 32 = .ok (.ifCond .ne 19, 3) := by decide +kernel
theorem dX8_hangUp_35 : decode cX8_hangUp 35 = .ok (.aload_n 0, 1) := by decide +kernel
theorem dX8_hangUp_36 : decode cX8_hangUp 36 = .ok (.getfield 15, 3) := by decide +kernel
theorem dX8_hangUp_39 : decode cX8_hangUp 39 = .ok (.iconst 3, 1) := by decide +kernel
theorem dX8_hangUp_40 : decode cX8_hangUp 40 = .ok (.aload_n 0, 1) := by decide +kernel
theorem dX8_hangUp_41 : decode cX8_hangUp 41 = .ok (.getfield 9, 3) := by decide +kernel
theorem dX8_hangUp_44 : decode cX8_hangUp 44 = .ok (.getfield 25, 3) := by decide +kernel
theorem dX8_hangUp_47 : decode cX8_hangUp 47 = .ok (.invokevirtual 19, 3) := by decide +kernel
theorem dX8_hangUp_50 : decode cX8_hangUp 50 = .ok (.ireturn, 1) := by decide +kernel
theorem dX8_hangUp_51 : decode cX8_hangUp 51 = .ok (.aload_n 0, 1) := by decide +kernel
theorem dX8_hangUp_52 : decode cX8_hangUp 52 = .ok (.getfield 9, 3) := by decide +kernel
theorem dX8_hangUp_55 : decode cX8_hangUp 55 = .ok (.iload_n 1, 1) := by decide +kernel
theorem dX8_hangUp_56 : decode cX8_hangUp 56 = .ok (.invokevirtual 39, 3) := by decide +kernel
theorem dX8_hangUp_59 : decode cX8_hangUp 59 = .ok (.astore 4, 2) := by decide +kernel
theorem dX8_hangUp_61 : decode cX8_hangUp 61 = .ok (.aload 4, 2) := by decide +kernel
theorem dX8_hangUp_63 : decode cX8_hangUp 63 = .ok (.getfield 43, 3) := by decide +kernel
theorem dX8_hangUp_66 : decode cX8_hangUp 66 = .ok (.ifCond .eq 17, 3) := by decide +kernel
theorem dX8_hangUp_69 : decode cX8_hangUp 69 = .ok (.aload_n 0, 1) := by decide +kernel
theorem dX8_hangUp_70 : decode cX8_hangUp 70 = .ok (.getfield 15, 3) := by decide +kernel
theorem dX8_hangUp_73 : decode cX8_hangUp 73 = .ok (.iconst 4, 1) := by decide +kernel
theorem dX8_hangUp_74 : decode cX8_hangUp 74 = .ok (.aload 4, 2) := by decide +kernel
theorem dX8_hangUp_76 : decode cX8_hangUp 76 = .ok (.getfield 43, 3) := by decide +kernel
theorem dX8_hangUp_79 : decode cX8_hangUp 79 = .ok (.invokevirtual 19, 3) := by decide +kernel
theorem dX8_hangUp_82 : decode cX8_hangUp 82 = .ok (.ireturn, 1) := by decide +kernel
theorem dX8_hangUp_83 : decode cX8_hangUp 83 = .ok (.aload_n 0, 1) := by decide +kernel
theorem dX8_hangUp_84 : decode cX8_hangUp 84 = .ok (.getfield 9, 3) := by decide +kernel
theorem dX8_hangUp_87 : decode cX8_hangUp 87 = .ok (.iload_n 2, 1) := by decide +kernel
theorem dX8_hangUp_88 : decode cX8_hangUp 88 = .ok (.iload_n 3, 1) := by decide +kernel
theorem dX8_hangUp_89 : decode cX8_hangUp 89 = .ok (.invokevirtual 65, 3) := by decide +kernel
theorem dX8_hangUp_92 : decode cX8_hangUp 92 = .ok (.istore 5, 2) := by decide +kernel
theorem dX8_hangUp_94 : decode cX8_hangUp 94 = .ok (.iload 5, 2) := by decide +kernel
theorem dX8_hangUp_96 : decode cX8_hangUp 96 = .ok (.iconst (-1), 1) := by decide +kernel
theorem dX8_hangUp_97 : decode cX8_hangUp 97 = .ok (.if_icmp .eq 15, 3) := by decide +kernel
theorem dX8_hangUp_100 : decode cX8_hangUp 100 = .ok (.aload_n 0, 1) := by decide +kernel
theorem dX8_hangUp_101 : decode cX8_hangUp 101 = .ok (.getfield 15, 3) := by decide +kernel
theorem dX8_hangUp_104 : decode cX8_hangUp 104 = .ok (.bipush 6, 2) := by decide +kernel
theorem dX8_hangUp_106 : decode cX8_hangUp 106 = .ok (.iload 5, 2) := by decide +kernel
theorem dX8_hangUp_108 : decode cX8_hangUp 108 = .ok (.invokevirtual 19, 3) := by decide +kernel
theorem dX8_hangUp_111 : decode cX8_hangUp 111 = .ok (.ireturn, 1) := by decide +kernel
theorem dX8_hangUp_112 : decode cX8_hangUp 112 = .ok (.aload 4, 2) := by decide +kernel
theorem dX8_hangUp_114 : decode cX8_hangUp 114 = .ok (.iconst 2, 1) := by decide +kernel
theorem dX8_hangUp_115 : decode cX8_hangUp 115 = .ok (.iload_n 2, 1) := by decide +kernel
theorem dX8_hangUp_116 : decode cX8_hangUp 116 = .ok (.iload_n 3, 1) := by decide +kernel
theorem dX8_hangUp_117 : decode cX8_hangUp 117 = .ok (.invokevirtual 48, 3) := by decide +kernel
theorem dX8_hangUp_120 : decode cX8_hangUp 120 = .ok (.aload_n 0, 1) := by decide +kernel
theorem dX8_hangUp_121 : decode cX8_hangUp 121 = .ok (.getfield 9, 3) := by decide +kernel
theorem dX8_hangUp_124 : decode cX8_hangUp 124 = .ok (.iload_n 2, 1) := by decide +kernel
theorem dX8_hangUp_125 : decode cX8_hangUp 125 = .ok (.invokevirtual 68, 3) := by decide +kernel
theorem dX8_hangUp_128 : decode cX8_hangUp 128 = .ok (.ireturn, 1) := by decide +kernel
theorem dX8_turnOver_0 : decode cX8_turnOver 0 = .ok (.aload_n 0, 1) := by decide +kernel
theorem dX8_turnOver_1 : decode cX8_turnOver 1 = .ok (.getfield 9, 3) := by decide +kernel
theorem dX8_turnOver_4 : decode cX8_turnOver 4 = .ok (.iload_n 1, 1) := by decide +kernel
theorem dX8_turnOver_5 : decode cX8_turnOver 5 = .ok (.invokevirtual 35, 3) := by decide +kernel
theorem dX8_turnOver_8 : decode cX8_turnOver 8 = .ok (.ifCond .ne 19, 3) := by decide +kernel
theorem dX8_turnOver_11 : decode cX8_turnOver 11 = .ok (.aload_n 0, 1) := by decide +kernel
theorem dX8_turnOver_12 : decode cX8_turnOver 12 = .ok (.getfield 15, 3) := by decide +kernel
theorem dX8_turnOver_15 : decode cX8_turnOver 15 = .ok (.iconst 3, 1) := by decide +kernel
theorem dX8_turnOver_16 : decode cX8_turnOver 16 = .ok (.aload_n 0, 1) := by decide +kernel
theorem dX8_turnOver_17 : decode cX8_turnOver 17 = .ok (.getfield 9, 3) := by decide +kernel
theorem dX8_turnOver_20 : decode cX8_turnOver 20 = .ok (.getfield 25, 3) := by decide +kernel
theorem dX8_turnOver_23 : decode cX8_turnOver 23 = .ok (.invokevirtual 19, 3) := by decide +kernel
theorem dX8_turnOver_26 : decode cX8_turnOver 26 = .ok (.ireturn, 1) := by decide +kernel
theorem dX8_turnOver_27 : decode cX8_turnOver 27 = .ok (.aload_n 0, 1) := by decide +kernel
theorem dX8_turnOver_28 : decode cX8_turnOver 28 = .ok (.getfield 9, 3) := by decide +kernel
theorem dX8_turnOver_31 : decode cX8_turnOver 31 = .ok (.iload_n 1, 1) := by decide +kernel
theorem dX8_turnOver_32 : decode cX8_turnOver 32 = .ok (.invokevirtual 39, 3) := by decide +kernel
theorem dX8_turnOver_35 : decode cX8_turnOver 35 = .ok (.astore_n 2, 1) := by decide +kernel
theorem dX8_turnOver_36 : decode cX8_turnOver 36 = .ok (.aload_n 2, 1) := by decide +kernel
theorem dX8_turnOver_37 : decode cX8_turnOver 37 = .ok (.invokevirtual 71, 3) := by decide +kernel
theorem dX8_turnOver_40 : decode cX8_turnOver 40 = .ok (.ifCond .ne 17, 3) := by decide +kernel
theorem dX8_turnOver_43 : decode cX8_turnOver 43 = .ok (.aload_n 0, 1) := by decide +kernel
theorem dX8_turnOver_44 : decode cX8_turnOver 44 = .ok (.getfield 15, 3) := by decide +kernel
theorem dX8_turnOver_47 : decode cX8_turnOver 47 = .ok (.bipush 7, 2) := by decide +kernel
theorem dX8_turnOver_49 : decode cX8_turnOver 49 = .ok (.aload_n 2, 1) := by decide +kernel
theorem dX8_turnOver_50 : decode cX8_turnOver 50 = .ok (.getfield 43, 3) := by decide +kernel
theorem dX8_turnOver_53 : decode cX8_turnOver 53 = .ok (.invokevirtual 19, 3) := by decide +kernel
theorem dX8_turnOver_56 : decode cX8_turnOver 56 = .ok (.ireturn, 1) := by decide +kernel
theorem dX8_turnOver_57 : decode cX8_turnOver 57 = .ok (.aload_n 2, 1) := by decide +kernel
theorem dX8_turnOver_58 : decode cX8_turnOver 58 = .ok (.invokevirtual 75, 3) := by decide +kernel
theorem dX8_turnOver_61 : decode cX8_turnOver 61 = .ok (.aload_n 2, 1) := by decide +kernel
theorem dX8_turnOver_62 : decode cX8_turnOver 62 = .ok (.getfield 78, 3) := by decide +kernel
theorem dX8_turnOver_65 : decode cX8_turnOver 65 = .ok (.ireturn, 1) := by decide +kernel
theorem dX8_turnRack_0 : decode cX8_turnRack 0 = .ok (.iload_n 1, 1) := by decide +kernel
theorem dX8_turnRack_1 : decode cX8_turnRack 1 = .ok (.invokestatic 59, 3) := by decide +kernel
theorem dX8_turnRack_4 : decode cX8_turnRack 4 = .ok (.ifCond .ne 13, 3) := by decide +kernel
theorem dX8_turnRack_7 : decode cX8_turnRack 7 = .ok (.aload_n 0, 1) := by decide +kernel
theorem dX8_turnRack_8 : decode cX8_turnRack 8 = .ok (.getfield 15, 3) := by decide +kernel
theorem dX8_turnRack_11 : decode cX8_turnRack 11 = .ok (.iconst 1, 1) := by decide +kernel
theorem dX8_turnRack_12 : decode cX8_turnRack 12 = .ok (.iconst 0, 1) := by decide +kernel
theorem dX8_turnRack_13 : decode cX8_turnRack 13 = .ok (.invokevirtual 19, 3) := by decide +kernel
theorem dX8_turnRack_16 : decode cX8_turnRack 16 = .ok (.ireturn, 1) := by decide +kernel
theorem dX8_turnRack_17 : decode cX8_turnRack 17 = .ok (.aload_n 0, 1) := by decide +kernel
theorem dX8_turnRack_18 : decode cX8_turnRack 18 = .ok (.getfield 9, 3) := by decide +kernel
theorem dX8_turnRack_21 : decode cX8_turnRack 21 = .ok (.iload_n 1, 1) := by decide +kernel
theorem dX8_turnRack_22 : decode cX8_turnRack 22 = .ok (.invokevirtual 68, 3) := by decide +kernel
theorem dX8_turnRack_25 : decode cX8_turnRack 25 = .ok (.istore_n 2, 1) := by decide +kernel
theorem dX8_turnRack_26 : decode cX8_turnRack 26 = .ok (.iload_n 2, 1) := by decide +kernel
theorem dX8_turnRack_27 : decode cX8_turnRack 27 = .ok (.ifCond .ne 14, 3) := by decide +kernel
theorem dX8_turnRack_30 : decode cX8_turnRack 30 = .ok (.aload_n 0, 1) := by decide +kernel
theorem dX8_turnRack_31 : decode cX8_turnRack 31 = .ok (.getfield 15, 3) := by decide +kernel
theorem dX8_turnRack_34 : decode cX8_turnRack 34 = .ok (.bipush 8, 2) := by decide +kernel
theorem dX8_turnRack_36 : decode cX8_turnRack 36 = .ok (.iconst 0, 1) := by decide +kernel
theorem dX8_turnRack_37 : decode cX8_turnRack 37 = .ok (.invokevirtual 19, 3) := by decide +kernel
theorem dX8_turnRack_40 : decode cX8_turnRack 40 = .ok (.ireturn, 1) := by decide +kernel
theorem dX8_turnRack_41 : decode cX8_turnRack 41 = .ok (.iconst 0, 1) := by decide +kernel
theorem dX8_turnRack_42 : decode cX8_turnRack 42 = .ok (.istore_n 3, 1) := by decide +kernel
theorem dX8_turnRack_43 : decode cX8_turnRack 43 = .ok (.iload_n 3, 1) := by decide +kernel
theorem dX8_turnRack_44 : decode cX8_turnRack 44 = .ok (.aload_n 0, 1) := by decide +kernel
theorem dX8_turnRack_45 : decode cX8_turnRack 45 = .ok (.getfield 9, 3) := by decide +kernel
theorem dX8_turnRack_48 : decode cX8_turnRack 48 = .ok (.getfield 25, 3) := by decide +kernel
theorem dX8_turnRack_51 : decode cX8_turnRack 51 = .ok (.if_icmp .ge 33, 3) := by decide +kernel
theorem dX8_turnRack_54 : decode cX8_turnRack 54 = .ok (.aload_n 0, 1) := by decide +kernel
theorem dX8_turnRack_55 : decode cX8_turnRack 55 = .ok (.getfield 9, 3) := by decide +kernel
theorem dX8_turnRack_58 : decode cX8_turnRack 58 = .ok (.iload_n 3, 1) := by decide +kernel
theorem dX8_turnRack_59 : decode cX8_turnRack 59 = .ok (.invokevirtual 39, 3) := by decide +kernel
theorem dX8_turnRack_62 : decode cX8_turnRack 62 = .ok (.astore 4, 2) := by decide +kernel
theorem dX8_turnRack_64 : decode cX8_turnRack 64 = .ok (.aload 4, 2) := by decide +kernel
theorem dX8_turnRack_66 : decode cX8_turnRack 66 = .ok (.getfield 81, 3) := by decide +kernel
theorem dX8_turnRack_69 : decode cX8_turnRack 69 = .ok (.iload_n 1, 1) := by decide +kernel
theorem dX8_turnRack_70 : decode cX8_turnRack 70 = .ok (.if_icmp .ne 8, 3) := by decide +kernel
theorem dX8_turnRack_73 : decode cX8_turnRack 73 = .ok (.aload 4, 2) := by decide +kernel
theorem dX8_turnRack_75 : decode cX8_turnRack 75 = .ok (.invokevirtual 75, 3) := by decide +kernel
theorem dX8_turnRack_78 : decode cX8_turnRack 78 = .ok (.iinc 3 1, 3) := by decide +kernel
theorem dX8_turnRack_81 : decode cX8_turnRack 81 = .ok (.goto (-38), 3) := by decide +kernel
theorem dX8_turnRack_84 : decode cX8_turnRack 84 = .ok (.iload_n 2, 1) := by decide +kernel
theorem dX8_turnRack_85 : decode cX8_turnRack 85 = .ok (.ireturn, 1) := by decide +kernel
theorem dX8_layLogs_0 : decode cX8_layLogs 0 = .ok (.iload_n 1, 1) := by decide +kernel
theorem dX8_layLogs_1 : decode cX8_layLogs 1 = .ok (.iconst 1, 1) := by decide +kernel
theorem dX8_layLogs_2 : decode cX8_layLogs 2 = .ok (.if_icmp .lt 9, 3) := by decide +kernel
theorem dX8_layLogs_5 : decode cX8_layLogs 5 = .ok (.iload_n 1, 1) := by decide +kernel
theorem dX8_layLogs_6 : decode cX8_layLogs 6 = .ok (.bipush 12, 2) := by decide +kernel
theorem dX8_layLogs_8 : decode cX8_layLogs 8 = .ok (.if_icmp .le 13, 3) := by decide +kernel
theorem dX8_layLogs_11 : decode cX8_layLogs 11 = .ok (.aload_n 0, 1) := by decide +kernel
theorem dX8_layLogs_12 : decode cX8_layLogs 12 = .ok (.getfield 15, 3) := by decide +kernel
theorem dX8_layLogs_15 : decode cX8_layLogs 15 = .ok (.iconst 1, 1) := by decide +kernel
theorem dX8_layLogs_16 : decode cX8_layLogs 16 = .ok (.iconst 0, 1) := by decide +kernel
theorem dX8_layLogs_17 : decode cX8_layLogs 17 = .ok (.invokevirtual 19, 3) := by decide +kernel
theorem dX8_layLogs_20 : decode cX8_layLogs 20 = .ok (.ireturn, 1) := by decide +kernel
theorem dX8_layLogs_21 : decode cX8_layLogs 21 = .ok (.aload_n 0, 1) := by decide +kernel
theorem dX8_layLogs_22 : decode cX8_layLogs 22 = .ok (.getfield 9, 3) := by decide +kernel
theorem dX8_layLogs_25 : decode cX8_layLogs 25 = .ok (.getfield 84, 3) := by decide +kernel
theorem dX8_layLogs_28 : decode cX8_layLogs 28 = .ok (.iload_n 1, 1) := by decide +kernel
theorem dX8_layLogs_29 : decode cX8_layLogs 29 = .ok (.iadd, 1) := by decide +kernel
theorem dX8_layLogs_30 : decode cX8_layLogs 30 = .ok (.bipush 12, 2) := by decide +kernel
theorem dX8_layLogs_32 : decode cX8_layLogs 32 = .ok (.if_icmp .le 14, 3) := by decide +kernel
theorem dX8_layLogs_35 : decode cX8_layLogs 35 = .ok (.aload_n 0, 1) := by decide +kernel
theorem dX8_layLogs_36 : decode cX8_layLogs 36 = .ok (.getfield 15, 3) := by decide +kernel
theorem dX8_layLogs_39 : decode cX8_layLogs 39 = .ok (.iconst 2, 1) := by decide +kernel
theorem dX8_layLogs_40 : decode cX8_layLogs 40 = .ok (.bipush 12, 2) := by decide +kernel
theorem dX8_layLogs_42 : decode cX8_layLogs 42 = .ok (.invokevirtual 19, 3) := by decide +kernel
theorem dX8_layLogs_45 : decode cX8_layLogs 45 = .ok (.ireturn, 1) := by decide +kernel
theorem dX8_layLogs_46 : decode cX8_layLogs 46 = .ok (.aload_n 0, 1) := by decide +kernel
theorem dX8_layLogs_47 : decode cX8_layLogs 47 = .ok (.getfield 9, 3) := by decide +kernel
theorem dX8_layLogs_50 : decode cX8_layLogs 50 = .ok (.dup, 1) := by decide +kernel
theorem dX8_layLogs_51 : decode cX8_layLogs 51 = .ok (.getfield 84, 3) := by decide +kernel
theorem dX8_layLogs_54 : decode cX8_layLogs 54 = .ok (.iload_n 1, 1) := by decide +kernel
theorem dX8_layLogs_55 : decode cX8_layLogs 55 = .ok (.iadd, 1) := by decide +kernel
theorem dX8_layLogs_56 : decode cX8_layLogs 56 = .ok (.putfield 84, 3) := by decide +kernel
theorem dX8_layLogs_59 : decode cX8_layLogs 59 = .ok (.aload_n 0, 1) := by decide +kernel
theorem dX8_layLogs_60 : decode cX8_layLogs 60 = .ok (.getfield 9, 3) := by decide +kernel
theorem dX8_layLogs_63 : decode cX8_layLogs 63 = .ok (.getfield 84, 3) := by decide +kernel
theorem dX8_layLogs_66 : decode cX8_layLogs 66 = .ok (.ireturn, 1) := by decide +kernel
theorem dX8_tellWood_0 : decode cX8_tellWood 0 = .ok (.iload_n 1, 1) := by decide +kernel
theorem dX8_tellWood_1 : decode cX8_tellWood 1 = .ok (.ifCond .lt 8, 3) := by decide +kernel
theorem dX8_tellWood_4 : decode cX8_tellWood 4 = .ok (.iload_n 1, 1) := by decide +kernel
theorem dX8_tellWood_5 : decode cX8_tellWood 5 = .ok (.iconst 4, 1) := by decide +kernel
theorem dX8_tellWood_6 : decode cX8_tellWood 6 = .ok (.if_icmp .lt 13, 3) := by decide +kernel
theorem dX8_tellWood_9 : decode cX8_tellWood 9 = .ok (.aload_n 0, 1) := by decide +kernel
theorem dX8_tellWood_10 : decode cX8_tellWood 10 = .ok (.getfield 15, 3) := by decide +kernel
theorem dX8_tellWood_13 : decode cX8_tellWood 13 = .ok (.iconst 1, 1) := by decide +kernel
theorem dX8_tellWood_14 : decode cX8_tellWood 14 = .ok (.iconst 0, 1) := by decide +kernel
theorem dX8_tellWood_15 : decode cX8_tellWood 15 = .ok (.invokevirtual 19, 3) := by decide +kernel
theorem dX8_tellWood_18 : decode cX8_tellWood 18 = .ok (.ireturn, 1) := by decide +kernel
theorem dX8_tellWood_19 : decode cX8_tellWood 19 = .ok (.aload_n 0, 1) := by decide +kernel
theorem dX8_tellWood_20 : decode cX8_tellWood 20 = .ok (.getfield 9, 3) := by decide +kernel
theorem dX8_tellWood_23 : decode cX8_tellWood 23 = .ok (.getfield 87, 3) := by decide +kernel
theorem dX8_tellWood_26 : decode cX8_tellWood 26 = .ok (.istore_n 2, 1) := by decide +kernel
theorem dX8_tellWood_27 : decode cX8_tellWood 27 = .ok (.iload_n 1, 1) := by decide +kernel
theorem dX8_tellWood_28 : decode cX8_tellWood 28 = .ok (.iload_n 2, 1) := by decide +kernel
theorem dX8_tellWood_29 : decode cX8_tellWood 29 = .ok (.if_icmp .ne 14, 3) := by decide +kernel
theorem dX8_tellWood_32 : decode cX8_tellWood 32 = .ok (.aload_n 0, 1) := by decide +kernel
theorem dX8_tellWood_33 : decode cX8_tellWood 33 = .ok (.getfield 15, 3) := by decide +kernel
theorem dX8_tellWood_36 : decode cX8_tellWood 36 = .ok (.bipush 9, 2) := by decide +kernel
theorem dX8_tellWood_38 : decode cX8_tellWood 38 = .ok (.iload_n 1, 1) := by decide +kernel
theorem dX8_tellWood_39 : decode cX8_tellWood 39 = .ok (.invokevirtual 19, 3) := by decide +kernel
theorem dX8_tellWood_42 : decode cX8_tellWood 42 = .ok (.ireturn, 1) := by decide +kernel
theorem dX8_tellWood_43 : decode cX8_tellWood 43 = .ok (.aload_n 0, 1) := by decide +kernel
theorem dX8_tellWood_44 : decode cX8_tellWood 44 = .ok (.getfield 9, 3) := by decide +kernel
theorem dX8_tellWood_47 : decode cX8_tellWood 47 = .ok (.iload_n 1, 1) := by decide +kernel
theorem dX8_tellWood_48 : decode cX8_tellWood 48 = .ok (.putfield 87, 3) := by decide +kernel
theorem dX8_tellWood_51 : decode cX8_tellWood 51 = .ok (.iload_n 2, 1) := by decide +kernel
theorem dX8_tellWood_52 : decode cX8_tellWood 52 = .ok (.ireturn, 1) := by decide +kernel
theorem dX8_passDay_0 : decode cX8_passDay 0 = .ok (.aload_n 0, 1) := by decide +kernel
theorem dX8_passDay_1 : decode cX8_passDay 1 = .ok (.getfield 9, 3) := by decide +kernel
theorem dX8_passDay_4 : decode cX8_passDay 4 = .ok (.iconst 1, 1) := by decide +kernel
theorem dX8_passDay_5 : decode cX8_passDay 5 = .ok (.invokevirtual 52, 3) := by decide +kernel
theorem dX8_passDay_8 : decode cX8_passDay 8 = .ok (.ifCond .ne 14, 3) := by decide +kernel
theorem dX8_passDay_11 : decode cX8_passDay 11 = .ok (.aload_n 0, 1) := by decide +kernel
theorem dX8_passDay_12 : decode cX8_passDay 12 = .ok (.getfield 15, 3) := by decide +kernel
theorem dX8_passDay_15 : decode cX8_passDay 15 = .ok (.bipush 8, 2) := by decide +kernel
theorem dX8_passDay_17 : decode cX8_passDay 17 = .ok (.iconst 0, 1) := by decide +kernel
theorem dX8_passDay_18 : decode cX8_passDay 18 = .ok (.invokevirtual 19, 3) := by decide +kernel
theorem dX8_passDay_21 : decode cX8_passDay 21 = .ok (.ireturn, 1) := by decide +kernel
theorem dX8_passDay_22 : decode cX8_passDay 22 = .ok (.iconst 0, 1) := by decide +kernel
theorem dX8_passDay_23 : decode cX8_passDay 23 = .ok (.istore_n 1, 1) := by decide +kernel
theorem dX8_passDay_24 : decode cX8_passDay 24 = .ok (.iload_n 1, 1) := by decide +kernel
theorem dX8_passDay_25 : decode cX8_passDay 25 = .ok (.aload_n 0, 1) := by decide +kernel
theorem dX8_passDay_26 : decode cX8_passDay 26 = .ok (.getfield 9, 3) := by decide +kernel
theorem dX8_passDay_29 : decode cX8_passDay 29 = .ok (.getfield 25, 3) := by decide +kernel
theorem dX8_passDay_32 : decode cX8_passDay 32 = .ok (.if_icmp .ge 31, 3) := by decide +kernel
theorem dX8_passDay_35 : decode cX8_passDay 35 = .ok (.aload_n 0, 1) := by decide +kernel
theorem dX8_passDay_36 : decode cX8_passDay 36 = .ok (.getfield 9, 3) := by decide +kernel
theorem dX8_passDay_39 : decode cX8_passDay 39 = .ok (.iload_n 1, 1) := by decide +kernel
theorem dX8_passDay_40 : decode cX8_passDay 40 = .ok (.invokevirtual 39, 3) := by decide +kernel
theorem dX8_passDay_43 : decode cX8_passDay 43 = .ok (.astore_n 2, 1) := by decide +kernel
theorem dX8_passDay_44 : decode cX8_passDay 44 = .ok (.aload_n 2, 1) := by decide +kernel
theorem dX8_passDay_45 : decode cX8_passDay 45 = .ok (.getfield 43, 3) := by decide +kernel
theorem dX8_passDay_48 : decode cX8_passDay 48 = .ok (.iconst 1, 1) := by decide +kernel
theorem dX8_passDay_49 : decode cX8_passDay 49 = .ok (.if_icmp .ne 8, 3) := by decide +kernel
theorem dX8_passDay_52 : decode cX8_passDay 52 = .ok (.aload_n 2, 1) := by decide +kernel
theorem dX8_passDay_53 : decode cX8_passDay 53 = .ok (.iconst 2, 1) := by decide +kernel
theorem dX8_passDay_54 : decode cX8_passDay 54 = .ok (.invokevirtual 90, 3) := by decide +kernel
theorem dX8_passDay_57 : decode cX8_passDay 57 = .ok (.iinc 1 1, 3) := by decide +kernel
theorem dX8_passDay_60 : decode cX8_passDay 60 = .ok (.goto (-36), 3) := by decide +kernel
theorem dX8_passDay_63 : decode cX8_passDay 63 = .ok (.aload_n 0, 1) := by decide +kernel
theorem dX8_passDay_64 : decode cX8_passDay 64 = .ok (.getfield 9, 3) := by decide +kernel
theorem dX8_passDay_67 : decode cX8_passDay 67 = .ok (.dup, 1) := by decide +kernel
theorem dX8_passDay_68 : decode cX8_passDay 68 = .ok (.getfield 93, 3) := by decide +kernel
theorem dX8_passDay_71 : decode cX8_passDay 71 = .ok (.iconst 1, 1) := by decide +kernel
theorem dX8_passDay_72 : decode cX8_passDay 72 = .ok (.iadd, 1) := by decide +kernel
theorem dX8_passDay_73 : decode cX8_passDay 73 = .ok (.putfield 93, 3) := by decide +kernel
theorem dX8_passDay_76 : decode cX8_passDay 76 = .ok (.aload_n 0, 1) := by decide +kernel
theorem dX8_passDay_77 : decode cX8_passDay 77 = .ok (.getfield 9, 3) := by decide +kernel
theorem dX8_passDay_80 : decode cX8_passDay 80 = .ok (.invokevirtual 96, 3) := by decide +kernel
theorem dX8_passDay_83 : decode cX8_passDay 83 = .ok (.ireturn, 1) := by decide +kernel
theorem dX8_passHours_0 : decode cX8_passHours 0 = .ok (.iload_n 1, 1) := by decide +kernel
theorem dX8_passHours_1 : decode cX8_passHours 1 = .ok (.iconst 1, 1) := by decide +kernel
theorem dX8_passHours_2 : decode cX8_passHours 2 = .ok (.if_icmp .lt 9, 3) := by decide +kernel
theorem dX8_passHours_5 : decode cX8_passHours 5 = .ok (.iload_n 1, 1) := by decide +kernel
theorem dX8_passHours_6 : decode cX8_passHours 6 = .ok (.bipush 24, 2) := by decide +kernel
theorem dX8_passHours_8 : decode cX8_passHours 8 = .ok (.if_icmp .le 13, 3) := by decide +kernel
theorem dX8_passHours_11 : decode cX8_passHours 11 = .ok (.aload_n 0, 1) := by decide +kernel
theorem dX8_passHours_12 : decode cX8_passHours 12 = .ok (.getfield 15, 3) := by decide +kernel
theorem dX8_passHours_15 : decode cX8_passHours 15 = .ok (.iconst 1, 1) := by decide +kernel
theorem dX8_passHours_16 : decode cX8_passHours 16 = .ok (.iconst 0, 1) := by decide +kernel
theorem dX8_passHours_17 : decode cX8_passHours 17 = .ok (.invokevirtual 19, 3) := by decide +kernel
theorem dX8_passHours_20 : decode cX8_passHours 20 = .ok (.ireturn, 1) := by decide +kernel
theorem dX8_passHours_21 : decode cX8_passHours 21 = .ok (.iconst 0, 1) := by decide +kernel
theorem dX8_passHours_22 : decode cX8_passHours 22 = .ok (.istore_n 2, 1) := by decide +kernel
theorem dX8_passHours_23 : decode cX8_passHours 23 = .ok (.iload_n 2, 1) := by decide +kernel
theorem dX8_passHours_24 : decode cX8_passHours 24 = .ok (.iload_n 1, 1) := by decide +kernel
theorem dX8_passHours_25 : decode cX8_passHours 25 = .ok (.if_icmp .ge 16, 3) := by decide +kernel
theorem dX8_passHours_28 : decode cX8_passHours 28 = .ok (.aload_n 0, 1) := by decide +kernel
theorem dX8_passHours_29 : decode cX8_passHours 29 = .ok (.getfield 9, 3) := by decide +kernel
theorem dX8_passHours_32 : decode cX8_passHours 32 = .ok (.invokevirtual 100, 3) := by decide +kernel
theorem dX8_passHours_35 : decode cX8_passHours 35 = .ok (.iinc 2 1, 3) := by decide +kernel
theorem dX8_passHours_38 : decode cX8_passHours 38 = .ok (.goto (-15), 3) := by decide +kernel
theorem dX8_passHours_41 : decode cX8_passHours 41 = .ok (.aload_n 0, 1) := by decide +kernel
theorem dX8_passHours_42 : decode cX8_passHours 42 = .ok (.getfield 9, 3) := by decide +kernel
theorem dX8_passHours_45 : decode cX8_passHours 45 = .ok (.invokevirtual 103, 3) := by decide +kernel
theorem dX8_passHours_48 : decode cX8_passHours 48 = .ok (.ireturn, 1) := by decide +kernel
theorem dX8_sellOff_0 : decode cX8_sellOff 0 = .ok (.aload_n 0, 1) := by decide +kernel
theorem dX8_sellOff_1 : decode cX8_sellOff 1 = .ok (.getfield 9, 3) := by decide +kernel
theorem dX8_sellOff_4 : decode cX8_sellOff 4 = .ok (.iload_n 1, 1) := by decide +kernel
theorem dX8_sellOff_5 : decode cX8_sellOff 5 = .ok (.invokevirtual 35, 3) := by decide +kernel
theorem dX8_sellOff_8 : decode cX8_sellOff 8 = .ok (.ifCond .ne 19, 3) := by decide +kernel
theorem dX8_sellOff_11 : decode cX8_sellOff 11 = .ok (.aload_n 0, 1) := by decide +kernel
theorem dX8_sellOff_12 : decode cX8_sellOff 12 = .ok (.getfield 15, 3) := by decide +kernel
theorem dX8_sellOff_15 : decode cX8_sellOff 15 = .ok (.iconst 3, 1) := by decide +kernel
theorem dX8_sellOff_16 : decode cX8_sellOff 16 = .ok (.aload_n 0, 1) := by decide +kernel
theorem dX8_sellOff_17 : decode cX8_sellOff 17 = .ok (.getfield 9, 3) := by decide +kernel
theorem dX8_sellOff_20 : decode cX8_sellOff 20 = .ok (.getfield 25, 3) := by decide +kernel
theorem dX8_sellOff_23 : decode cX8_sellOff 23 = .ok (.invokevirtual 19, 3) := by decide +kernel
theorem dX8_sellOff_26 : decode cX8_sellOff 26 = .ok (.ireturn, 1) := by decide +kernel
theorem dX8_sellOff_27 : decode cX8_sellOff 27 = .ok (.aload_n 0, 1) := by decide +kernel
theorem dX8_sellOff_28 : decode cX8_sellOff 28 = .ok (.getfield 9, 3) := by decide +kernel
theorem dX8_sellOff_31 : decode cX8_sellOff 31 = .ok (.iload_n 1, 1) := by decide +kernel
theorem dX8_sellOff_32 : decode cX8_sellOff 32 = .ok (.invokevirtual 39, 3) := by decide +kernel
theorem dX8_sellOff_35 : decode cX8_sellOff 35 = .ok (.astore_n 2, 1) := by decide +kernel
theorem dX8_sellOff_36 : decode cX8_sellOff 36 = .ok (.aload_n 2, 1) := by decide +kernel
theorem dX8_sellOff_37 : decode cX8_sellOff 37 = .ok (.invokevirtual 106, 3) := by decide +kernel
theorem dX8_sellOff_40 : decode cX8_sellOff 40 = .ok (.ifCond .ne 29, 3) := by decide +kernel
theorem dX8_sellOff_43 : decode cX8_sellOff 43 = .ok (.aload_n 0, 1) := by decide +kernel
theorem dX8_sellOff_44 : decode cX8_sellOff 44 = .ok (.getfield 15, 3) := by decide +kernel
theorem dX8_sellOff_47 : decode cX8_sellOff 47 = .ok (.bipush 10, 2) := by decide +kernel
theorem dX8_sellOff_49 : decode cX8_sellOff 49 = .ok (.aload_n 2, 1) := by decide +kernel
theorem dX8_sellOff_50 : decode cX8_sellOff 50 = .ok (.invokevirtual 109, 3) := by decide +kernel
theorem dX8_sellOff_53 : decode cX8_sellOff 53 = .ok (.ifCond .eq 8, 3) := by decide +kernel
theorem dX8_sellOff_56 : decode cX8_sellOff 56 = .ok (.bipush 100, 2) := by decide +kernel
theorem dX8_sellOff_58 : decode cX8_sellOff 58 = .ok (.goto 7, 3) := by decide +kernel
theorem dX8_sellOff_61 : decode cX8_sellOff 61 = .ok (.aload_n 2, 1) := by decide +kernel
theorem dX8_sellOff_62 : decode cX8_sellOff 62 = .ok (.invokevirtual 112, 3) := by decide +kernel
theorem dX8_sellOff_65 : decode cX8_sellOff 65 = .ok (.invokevirtual 19, 3) := by decide +kernel
theorem dX8_sellOff_68 : decode cX8_sellOff 68 = .ok (.ireturn, 1) := by decide +kernel
theorem dX8_sellOff_69 : decode cX8_sellOff 69 = .ok (.aload_n 2, 1) := by decide +kernel
theorem dX8_sellOff_70 : decode cX8_sellOff 70 = .ok (.invokevirtual 115, 3) := by decide +kernel
theorem dX8_sellOff_73 : decode cX8_sellOff 73 = .ok (.istore_n 3, 1) := by decide +kernel
theorem dX8_sellOff_74 : decode cX8_sellOff 74 = .ok (.aload_n 0, 1) := by decide +kernel
theorem dX8_sellOff_75 : decode cX8_sellOff 75 = .ok (.getfield 9, 3) := by decide +kernel
theorem dX8_sellOff_78 : decode cX8_sellOff 78 = .ok (.dup, 1) := by decide +kernel
theorem dX8_sellOff_79 : decode cX8_sellOff 79 = .ok (.getfield 118, 3) := by decide +kernel
theorem dX8_sellOff_82 : decode cX8_sellOff 82 = .ok (.iconst 1, 1) := by decide +kernel
theorem dX8_sellOff_83 : decode cX8_sellOff 83 = .ok (.iadd, 1) := by decide +kernel
theorem dX8_sellOff_84 : decode cX8_sellOff 84 = .ok (.putfield 118, 3) := by decide +kernel
theorem dX8_sellOff_87 : decode cX8_sellOff 87 = .ok (.aload_n 0, 1) := by decide +kernel
theorem dX8_sellOff_88 : decode cX8_sellOff 88 = .ok (.getfield 9, 3) := by decide +kernel
theorem dX8_sellOff_91 : decode cX8_sellOff 91 = .ok (.dup, 1) := by decide +kernel
theorem dX8_sellOff_92 : decode cX8_sellOff 92 = .ok (.getfield 121, 3) := by decide +kernel
theorem dX8_sellOff_95 : decode cX8_sellOff 95 = .ok (.iload_n 3, 1) := by decide +kernel
theorem dX8_sellOff_96 : decode cX8_sellOff 96 = .ok (.iadd, 1) := by decide +kernel
theorem dX8_sellOff_97 : decode cX8_sellOff 97 = .ok (.putfield 121, 3) := by decide +kernel
theorem dX8_sellOff_100 : decode cX8_sellOff 100 = .ok (.aload_n 0, 1) := by decide +kernel
theorem dX8_sellOff_101 : decode cX8_sellOff 101 = .ok (.getfield 9, 3) := by decide +kernel
theorem dX8_sellOff_104 : decode cX8_sellOff 104 = .ok (.iload_n 1, 1) := by decide +kernel
theorem dX8_sellOff_105 : decode cX8_sellOff 105 = .ok (.invokevirtual 124, 3) := by decide +kernel
theorem dX8_sellOff_108 : decode cX8_sellOff 108 = .ok (.iload_n 3, 1) := by decide +kernel
theorem dX8_sellOff_109 : decode cX8_sellOff 109 = .ok (.ireturn, 1) := by decide +kernel
theorem dX8_discard_0 : decode cX8_discard 0 = .ok (.aload_n 0, 1) := by decide +kernel
theorem dX8_discard_1 : decode cX8_discard 1 = .ok (.getfield 9, 3) := by decide +kernel
theorem dX8_discard_4 : decode cX8_discard 4 = .ok (.iload_n 1, 1) := by decide +kernel
theorem dX8_discard_5 : decode cX8_discard 5 = .ok (.invokevirtual 35, 3) := by decide +kernel
theorem dX8_discard_8 : decode cX8_discard 8 = .ok (.ifCond .ne 19, 3) := by decide +kernel
theorem dX8_discard_11 : decode cX8_discard 11 = .ok (.aload_n 0, 1) := by decide +kernel
theorem dX8_discard_12 : decode cX8_discard 12 = .ok (.getfield 15, 3) := by decide +kernel
theorem dX8_discard_15 : decode cX8_discard 15 = .ok (.iconst 3, 1) := by decide +kernel
theorem dX8_discard_16 : decode cX8_discard 16 = .ok (.aload_n 0, 1) := by decide +kernel
theorem dX8_discard_17 : decode cX8_discard 17 = .ok (.getfield 9, 3) := by decide +kernel
theorem dX8_discard_20 : decode cX8_discard 20 = .ok (.getfield 25, 3) := by decide +kernel
theorem dX8_discard_23 : decode cX8_discard 23 = .ok (.invokevirtual 19, 3) := by decide +kernel
theorem dX8_discard_26 : decode cX8_discard 26 = .ok (.ireturn, 1) := by decide +kernel
theorem dX8_discard_27 : decode cX8_discard 27 = .ok (.aload_n 0, 1) := by decide +kernel
theorem dX8_discard_28 : decode cX8_discard 28 = .ok (.getfield 9, 3) := by decide +kernel
theorem dX8_discard_31 : decode cX8_discard 31 = .ok (.iload_n 1, 1) := by decide +kernel
theorem dX8_discard_32 : decode cX8_discard 32 = .ok (.invokevirtual 39, 3) := by decide +kernel
theorem dX8_discard_35 : decode cX8_discard 35 = .ok (.getfield 127, 3) := by decide +kernel
theorem dX8_discard_38 : decode cX8_discard 38 = .ok (.istore_n 2, 1) := by decide +kernel
theorem dX8_discard_39 : decode cX8_discard 39 = .ok (.aload_n 0, 1) := by decide +kernel
theorem dX8_discard_40 : decode cX8_discard 40 = .ok (.getfield 9, 3) := by decide +kernel
theorem dX8_discard_43 : decode cX8_discard 43 = .ok (.dup, 1) := by decide +kernel
theorem dX8_discard_44 : decode cX8_discard 44 = .ok (.getfield 130, 3) := by decide +kernel
theorem dX8_discard_47 : decode cX8_discard 47 = .ok (.iconst 1, 1) := by decide +kernel
theorem dX8_discard_48 : decode cX8_discard 48 = .ok (.iadd, 1) := by decide +kernel
theorem dX8_discard_49 : decode cX8_discard 49 = .ok (.putfield 130, 3) := by decide +kernel
theorem dX8_discard_52 : decode cX8_discard 52 = .ok (.aload_n 0, 1) := by decide +kernel
theorem dX8_discard_53 : decode cX8_discard 53 = .ok (.getfield 9, 3) := by decide +kernel
theorem dX8_discard_56 : decode cX8_discard 56 = .ok (.iload_n 1, 1) := by decide +kernel
theorem dX8_discard_57 : decode cX8_discard 57 = .ok (.invokevirtual 124, 3) := by decide +kernel
theorem dX8_discard_60 : decode cX8_discard 60 = .ok (.iload_n 2, 1) := by decide +kernel
theorem dX8_discard_61 : decode cX8_discard 61 = .ok (.ireturn, 1) := by decide +kernel
theorem dX8_carryOut_0 : decode cX8_carryOut 0 = .ok (.aload_n 1, 1) := by decide +kernel
theorem dX8_carryOut_1 : decode cX8_carryOut 1 = .ok (.getfield 133, 3) := by decide +kernel
theorem dX8_carryOut_4 : decode cX8_carryOut 4 = .ok (.tableswitch 211 97 119 #[161, 117, 211, 188, 211, 108, 211, 135, 211, 211, 211, 170, 211, 193, 126, 211, 211, 211, 202, 152, 211, 211, 179], 108) := by decide +kernel
theorem dX8_carryOut_112 : decode cX8_carryOut 112 = .ok (.aload_n 0, 1) := by decide +kernel
theorem dX8_carryOut_113 : decode cX8_carryOut 113 = .ok (.aload_n 1, 1) := by decide +kernel
theorem dX8_carryOut_114 : decode cX8_carryOut 114 = .ok (.getfield 139, 3) := by decide +kernel
theorem dX8_carryOut_117 : decode cX8_carryOut 117 = .ok (.invokevirtual 142, 3) := by decide +kernel
theorem dX8_carryOut_120 : decode cX8_carryOut 120 = .ok (.ireturn, 1) := by decide +kernel
theorem dX8_carryOut_121 : decode cX8_carryOut 121 = .ok (.aload_n 0, 1) := by decide +kernel
theorem dX8_carryOut_122 : decode cX8_carryOut 122 = .ok (.aload_n 1, 1) := by decide +kernel
theorem dX8_carryOut_123 : decode cX8_carryOut 123 = .ok (.getfield 139, 3) := by decide +kernel
theorem dX8_carryOut_126 : decode cX8_carryOut 126 = .ok (.invokevirtual 145, 3) := by decide +kernel
theorem dX8_carryOut_129 : decode cX8_carryOut 129 = .ok (.ireturn, 1) := by decide +kernel
theorem dX8_carryOut_130 : decode cX8_carryOut 130 = .ok (.aload_n 0, 1) := by decide +kernel
theorem dX8_carryOut_131 : decode cX8_carryOut 131 = .ok (.aload_n 1, 1) := by decide +kernel
theorem dX8_carryOut_132 : decode cX8_carryOut 132 = .ok (.getfield 139, 3) := by decide +kernel
theorem dX8_carryOut_135 : decode cX8_carryOut 135 = .ok (.invokevirtual 148, 3) := by decide +kernel
theorem dX8_carryOut_138 : decode cX8_carryOut 138 = .ok (.ireturn, 1) := by decide +kernel
theorem dX8_carryOut_139 : decode cX8_carryOut 139 = .ok (.aload_n 0, 1) := by decide +kernel
theorem dX8_carryOut_140 : decode cX8_carryOut 140 = .ok (.aload_n 1, 1) := by decide +kernel
theorem dX8_carryOut_141 : decode cX8_carryOut 141 = .ok (.getfield 139, 3) := by decide +kernel
theorem dX8_carryOut_144 : decode cX8_carryOut 144 = .ok (.aload_n 1, 1) := by decide +kernel
theorem dX8_carryOut_145 : decode cX8_carryOut 145 = .ok (.getfield 151, 3) := by decide +kernel
theorem dX8_carryOut_148 : decode cX8_carryOut 148 = .ok (.aload_n 1, 1) := by decide +kernel
theorem dX8_carryOut_149 : decode cX8_carryOut 149 = .ok (.getfield 152, 3) := by decide +kernel
theorem dX8_carryOut_152 : decode cX8_carryOut 152 = .ok (.invokevirtual 155, 3) := by decide +kernel
theorem dX8_carryOut_155 : decode cX8_carryOut 155 = .ok (.ireturn, 1) := by decide +kernel
theorem dX8_carryOut_156 : decode cX8_carryOut 156 = .ok (.aload_n 0, 1) := by decide +kernel
theorem dX8_carryOut_157 : decode cX8_carryOut 157 = .ok (.aload_n 1, 1) := by decide +kernel
theorem dX8_carryOut_158 : decode cX8_carryOut 158 = .ok (.getfield 139, 3) := by decide +kernel
theorem dX8_carryOut_161 : decode cX8_carryOut 161 = .ok (.invokevirtual 159, 3) := by decide +kernel
theorem dX8_carryOut_164 : decode cX8_carryOut 164 = .ok (.ireturn, 1) := by decide +kernel
theorem dX8_carryOut_165 : decode cX8_carryOut 165 = .ok (.aload_n 0, 1) := by decide +kernel
theorem dX8_carryOut_166 : decode cX8_carryOut 166 = .ok (.aload_n 1, 1) := by decide +kernel
theorem dX8_carryOut_167 : decode cX8_carryOut 167 = .ok (.getfield 139, 3) := by decide +kernel
theorem dX8_carryOut_170 : decode cX8_carryOut 170 = .ok (.invokevirtual 162, 3) := by decide +kernel
theorem dX8_carryOut_173 : decode cX8_carryOut 173 = .ok (.ireturn, 1) := by decide +kernel
theorem dX8_carryOut_174 : decode cX8_carryOut 174 = .ok (.aload_n 0, 1) := by decide +kernel
theorem dX8_carryOut_175 : decode cX8_carryOut 175 = .ok (.aload_n 1, 1) := by decide +kernel
theorem dX8_carryOut_176 : decode cX8_carryOut 176 = .ok (.getfield 139, 3) := by decide +kernel
theorem dX8_carryOut_179 : decode cX8_carryOut 179 = .ok (.invokevirtual 165, 3) := by decide +kernel
theorem dX8_carryOut_182 : decode cX8_carryOut 182 = .ok (.ireturn, 1) := by decide +kernel
theorem dX8_carryOut_183 : decode cX8_carryOut 183 = .ok (.aload_n 0, 1) := by decide +kernel
theorem dX8_carryOut_184 : decode cX8_carryOut 184 = .ok (.aload_n 1, 1) := by decide +kernel
theorem dX8_carryOut_185 : decode cX8_carryOut 185 = .ok (.getfield 139, 3) := by decide +kernel
theorem dX8_carryOut_188 : decode cX8_carryOut 188 = .ok (.invokevirtual 168, 3) := by decide +kernel
theorem dX8_carryOut_191 : decode cX8_carryOut 191 = .ok (.ireturn, 1) := by decide +kernel
theorem dX8_carryOut_192 : decode cX8_carryOut 192 = .ok (.aload_n 0, 1) := by decide +kernel
theorem dX8_carryOut_193 : decode cX8_carryOut 193 = .ok (.invokevirtual 171, 3) := by decide +kernel
theorem dX8_carryOut_196 : decode cX8_carryOut 196 = .ok (.ireturn, 1) := by decide +kernel
theorem dX8_carryOut_197 : decode cX8_carryOut 197 = .ok (.aload_n 0, 1) := by decide +kernel
theorem dX8_carryOut_198 : decode cX8_carryOut 198 = .ok (.aload_n 1, 1) := by decide +kernel
theorem dX8_carryOut_199 : decode cX8_carryOut 199 = .ok (.getfield 139, 3) := by decide +kernel
theorem dX8_carryOut_202 : decode cX8_carryOut 202 = .ok (.invokevirtual 174, 3) := by decide +kernel
theorem dX8_carryOut_205 : decode cX8_carryOut 205 = .ok (.ireturn, 1) := by decide +kernel
theorem dX8_carryOut_206 : decode cX8_carryOut 206 = .ok (.aload_n 0, 1) := by decide +kernel
theorem dX8_carryOut_207 : decode cX8_carryOut 207 = .ok (.aload_n 1, 1) := by decide +kernel
theorem dX8_carryOut_208 : decode cX8_carryOut 208 = .ok (.getfield 139, 3) := by decide +kernel
theorem dX8_carryOut_211 : decode cX8_carryOut 211 = .ok (.invokevirtual 177, 3) := by decide +kernel
theorem dX8_carryOut_214 : decode cX8_carryOut 214 = .ok (.ireturn, 1) := by decide +kernel
theorem dX8_carryOut_215 : decode cX8_carryOut 215 = .ok (.aload_n 0, 1) := by decide +kernel
theorem dX8_carryOut_216 : decode cX8_carryOut 216 = .ok (.aload_n 1, 1) := by decide +kernel
theorem dX8_carryOut_217 : decode cX8_carryOut 217 = .ok (.getfield 139, 3) := by decide +kernel
theorem dX8_carryOut_220 : decode cX8_carryOut 220 = .ok (.invokevirtual 180, 3) := by decide +kernel
theorem dX8_carryOut_223 : decode cX8_carryOut 223 = .ok (.ireturn, 1) := by decide +kernel
theorem dX9_init_0 : decode cX9_init 0 = .ok (.aload_n 0, 1) := by decide +kernel
theorem dX9_init_1 : decode cX9_init 1 = .ok (.invokespecial 3, 3) := by decide +kernel
theorem dX9_init_4 : decode cX9_init 4 = .ok (.aload_n 0, 1) := by decide +kernel
theorem dX9_init_5 : decode cX9_init 5 = .ok (.new 9, 3) := by decide +kernel
theorem dX9_init_8 : decode cX9_init 8 = .ok (.dup, 1) := by decide +kernel
theorem dX9_init_9 : decode cX9_init 9 = .ok (.invokespecial 11, 3) := by decide +kernel
theorem dX9_init_12 : decode cX9_init 12 = .ok (.putfield 12, 3) := by decide +kernel
theorem dX9_init_15 : decode cX9_init 15 = .ok (.aload_n 0, 1) := by decide +kernel
theorem dX9_init_16 : decode cX9_init 16 = .ok (.new 9, 3) := by decide +kernel
theorem dX9_init_19 : decode cX9_init 19 = .ok (.dup, 1) := by decide +kernel
theorem dX9_init_20 : decode cX9_init 20 = .ok (.invokespecial 11, 3) := by decide +kernel
theorem dX9_init_23 : decode cX9_init 23 = .ok (.putfield 16, 3) := by decide +kernel
theorem dX9_init_26 : decode cX9_init 26 = .ok (.aload_n 0, 1) := by decide +kernel
theorem dX9_init_27 : decode cX9_init 27 = .ok (.new 9, 3) := by decide +kernel
theorem dX9_init_30 : decode cX9_init 30 = .ok (.dup, 1) := by decide +kernel
theorem dX9_init_31 : decode cX9_init 31 = .ok (.invokespecial 11, 3) := by decide +kernel
theorem dX9_init_34 : decode cX9_init 34 = .ok (.putfield 19, 3) := by decide +kernel
theorem dX9_init_37 : decode cX9_init 37 = .ok (.aload_n 0, 1) := by decide +kernel
theorem dX9_init_38 : decode cX9_init 38 = .ok (.new 22, 3) := by decide +kernel
theorem dX9_init_41 : decode cX9_init 41 = .ok (.dup, 1) := by decide +kernel
theorem dX9_init_42 : decode cX9_init 42 = .ok (.invokespecial 24, 3) := by decide +kernel
theorem dX9_init_45 : decode cX9_init 45 = .ok (.putfield 25, 3) := by decide +kernel
theorem dX9_init_48 : decode cX9_init 48 = .ok (.aload_n 0, 1) := by decide +kernel
theorem dX9_init_49 : decode cX9_init 49 = .ok (.new 29, 3) := by decide +kernel
theorem dX9_init_52 : decode cX9_init 52 = .ok (.dup, 1) := by decide +kernel
theorem dX9_init_53 : decode cX9_init 53 = .ok (.invokespecial 31, 3) := by decide +kernel
theorem dX9_init_56 : decode cX9_init 56 = .ok (.putfield 32, 3) := by decide +kernel
theorem dX9_init_59 : decode cX9_init 59 = .ok (.aload_n 0, 1) := by decide +kernel
theorem dX9_init_60 : decode cX9_init 60 = .ok (.new 36, 3) := by decide +kernel
theorem dX9_init_63 : decode cX9_init 63 = .ok (.dup, 1) := by decide +kernel
theorem dX9_init_64 : decode cX9_init 64 = .ok (.aload_n 0, 1) := by decide +kernel
theorem dX9_init_65 : decode cX9_init 65 = .ok (.getfield 12, 3) := by decide +kernel
theorem dX9_init_68 : decode cX9_init 68 = .ok (.aload_n 0, 1) := by decide +kernel
theorem dX9_init_69 : decode cX9_init 69 = .ok (.getfield 32, 3) := by decide +kernel
theorem dX9_init_72 : decode cX9_init 72 = .ok (.invokespecial 38, 3) := by decide +kernel
theorem dX9_init_75 : decode cX9_init 75 = .ok (.putfield 41, 3) := by decide +kernel
theorem dX9_init_78 : decode cX9_init 78 = .ok (.aload_n 0, 1) := by decide +kernel
theorem dX9_init_79 : decode cX9_init 79 = .ok (.new 45, 3) := by decide +kernel
theorem dX9_init_82 : decode cX9_init 82 = .ok (.dup, 1) := by decide +kernel
theorem dX9_init_83 : decode cX9_init 83 = .ok (.aload_n 0, 1) := by decide +kernel
theorem dX9_init_84 : decode cX9_init 84 = .ok (.getfield 12, 3) := by decide +kernel
theorem dX9_init_87 : decode cX9_init 87 = .ok (.invokespecial 47, 3) := by decide +kernel
theorem dX9_init_90 : decode cX9_init 90 = .ok (.putfield 50, 3) := by decide +kernel
theorem dX9_init_93 : decode cX9_init 93 = .ok (.aload_n 0, 1) := by decide +kernel
theorem dX9_init_94 : decode cX9_init 94 = .ok (.new 54, 3) := by decide +kernel
theorem dX9_init_97 : decode cX9_init 97 = .ok (.dup, 1) := by decide +kernel
theorem dX9_init_98 : decode cX9_init 98 = .ok (.invokespecial 56, 3) := by decide +kernel
theorem dX9_init_101 : decode cX9_init 101 = .ok (.putfield 57, 3) := by decide +kernel
theorem dX9_init_104 : decode cX9_init 104 = .ok (.aload_n 0, 1) := by decide +kernel
theorem dX9_init_105 : decode cX9_init 105 = .ok (.new 61, 3) := by decide +kernel
theorem dX9_init_108 : decode cX9_init 108 = .ok (.dup, 1) := by decide +kernel
theorem dX9_init_109 : decode cX9_init 109 = .ok (.invokespecial 63, 3) := by decide +kernel
theorem dX9_init_112 : decode cX9_init 112 = .ok (.putfield 64, 3) := by decide +kernel
theorem dX9_init_115 : decode cX9_init 115 = .ok (.return_, 1) := by decide +kernel
theorem dX9_fish_0 : decode cX9_fish 0 = .ok (.aload_n 0, 1) := by decide +kernel
theorem dX9_fish_1 : decode cX9_fish 1 = .ok (.getfield 16, 3) := by decide +kernel
theorem dX9_fish_4 : decode cX9_fish 4 = .ok (.aload_n 0, 1) := by decide +kernel
theorem dX9_fish_5 : decode cX9_fish 5 = .ok (.getfield 12, 3) := by decide +kernel
theorem dX9_fish_8 : decode cX9_fish 8 = .ok (.invokevirtual 68, 3) := by decide +kernel
theorem dX9_fish_11 : decode cX9_fish 11 = .ok (.aload_n 0, 1) := by decide +kernel
theorem dX9_fish_12 : decode cX9_fish 12 = .ok (.aload_n 0, 1) := by decide +kernel
theorem dX9_fish_13 : decode cX9_fish 13 = .ok (.getfield 41, 3) := by decide +kernel
theorem dX9_fish_16 : decode cX9_fish 16 = .ok (.iload_n 1, 1) := by decide +kernel
theorem dX9_fish_17 : decode cX9_fish 17 = .ok (.invokevirtual 71, 3) := by decide +kernel
theorem dX9_fish_20 : decode cX9_fish 20 = .ok (.invokevirtual 75, 3) := by decide +kernel
theorem dX9_fish_23 : decode cX9_fish 23 = .ok (.ireturn, 1) := by decide +kernel
theorem dX9_brine_0 : decode cX9_brine 0 = .ok (.aload_n 0, 1) := by decide +kernel
theorem dX9_brine_1 : decode cX9_brine 1 = .ok (.getfield 16, 3) := by decide +kernel
theorem dX9_brine_4 : decode cX9_brine 4 = .ok (.aload_n 0, 1) := by decide +kernel
theorem dX9_brine_5 : decode cX9_brine 5 = .ok (.getfield 12, 3) := by decide +kernel
theorem dX9_brine_8 : decode cX9_brine 8 = .ok (.invokevirtual 68, 3) := by decide +kernel
theorem dX9_brine_11 : decode cX9_brine 11 = .ok (.aload_n 0, 1) := by decide +kernel
theorem dX9_brine_12 : decode cX9_brine 12 = .ok (.aload_n 0, 1) := by decide +kernel
theorem dX9_brine_13 : decode cX9_brine 13 = .ok (.getfield 41, 3) := by decide +kernel
theorem dX9_brine_16 : decode cX9_brine 16 = .ok (.iload_n 1, 1) := by decide +kernel
theorem dX9_brine_17 : decode cX9_brine 17 = .ok (.invokevirtual 78, 3) := by decide +kernel
theorem dX9_brine_20 : decode cX9_brine 20 = .ok (.invokevirtual 75, 3) := by decide +kernel
theorem dX9_brine_23 : decode cX9_brine 23 = .ok (.ireturn, 1) := by decide +kernel
theorem dX9_out_0 : decode cX9_out 0 = .ok (.aload_n 0, 1) := by decide +kernel
theorem dX9_out_1 : decode cX9_out 1 = .ok (.getfield 16, 3) := by decide +kernel
theorem dX9_out_4 : decode cX9_out 4 = .ok (.aload_n 0, 1) := by decide +kernel
theorem dX9_out_5 : decode cX9_out 5 = .ok (.getfield 12, 3) := by decide +kernel
theorem dX9_out_8 : decode cX9_out 8 = .ok (.invokevirtual 68, 3) := by decide +kernel
theorem dX9_out_11 : decode cX9_out 11 = .ok (.aload_n 0, 1) := by decide +kernel
theorem dX9_out_12 : decode cX9_out 12 = .ok (.aload_n 0, 1) := by decide +kernel
theorem dX9_out_13 : decode cX9_out 13 = .ok (.getfield 41, 3) := by decide +kernel
theorem dX9_out_16 : decode cX9_out 16 = .ok (.iload_n 1, 1) := by decide +kernel
theorem dX9_out_17 : decode cX9_out 17 = .ok (.invokevirtual 81, 3) := by decide +kernel
theorem dX9_out_20 : decode cX9_out 20 = .ok (.invokevirtual 75, 3) := by decide +kernel
theorem dX9_out_23 : decode cX9_out 23 = .ok (.ireturn, 1) := by decide +kernel
theorem dX9_hang_0 : decode cX9_hang 0 = .ok (.aload_n 0, 1) := by decide +kernel
theorem dX9_hang_1 : decode cX9_hang 1 = .ok (.getfield 16, 3) := by decide +kernel
theorem dX9_hang_4 : decode cX9_hang 4 = .ok (.aload_n 0, 1) := by decide +kernel
theorem dX9_hang_5 : decode cX9_hang 5 = .ok (.getfield 12, 3) := by decide +kernel
theorem dX9_hang_8 : decode cX9_hang 8 = .ok (.invokevirtual 68, 3) := by decide +kernel
theorem dX9_hang_11 : decode cX9_hang 11 = .ok (.aload_n 0, 1) := by decide +kernel
theorem dX9_hang_12 : decode cX9_hang 12 = .ok (.aload_n 0, 1) := by decide +kernel
theorem dX9_hang_13 : decode cX9_hang 13 = .ok (.getfield 41, 3) := by decide +kernel
theorem dX9_hang_16 : decode cX9_hang 16 = .ok (.iload_n 1, 1) := by decide +kernel
theorem dX9_hang_17 : decode cX9_hang 17 = .ok (.iload_n 2, 1) := by decide +kernel
theorem dX9_hang_18 : decode cX9_hang 18 = .ok (.iload_n 3, 1) := by decide +kernel
theorem dX9_hang_19 : decode cX9_hang 19 = .ok (.invokevirtual 84, 3) := by decide +kernel
theorem dX9_hang_22 : decode cX9_hang 22 = .ok (.invokevirtual 75, 3) := by decide +kernel
theorem dX9_hang_25 : decode cX9_hang 25 = .ok (.ireturn, 1) := by decide +kernel
theorem dX9_turn_0 : decode cX9_turn 0 = .ok (.aload_n 0, 1) := by decide +kernel
theorem dX9_turn_1 : decode cX9_turn 1 = .ok (.getfield 16, 3) := by decide +kernel
theorem dX9_turn_4 : decode cX9_turn 4 = .ok (.aload_n 0, 1) := by decide +kernel
theorem dX9_turn_5 : decode cX9_turn 5 = .ok (.getfield 12, 3) := by decide +kernel
theorem dX9_turn_8 : decode cX9_turn 8 = .ok (.invokevirtual 68, 3) := by decide +kernel
theorem dX9_turn_11 : decode cX9_turn 11 = .ok (.aload_n 0, 1) := by decide +kernel
theorem dX9_turn_12 : decode cX9_turn 12 = .ok (.aload_n 0, 1) := by decide +kernel
theorem dX9_turn_13 : decode cX9_turn 13 = .ok (.getfield 41, 3) := by decide +kernel
theorem dX9_turn_16 : decode cX9_turn 16 = .ok (.iload_n 1, 1) := by decide +kernel
theorem dX9_turn_17 : decode cX9_turn 17 = .ok (.invokevirtual 88, 3) := by decide +kernel
theorem dX9_turn_20 : decode cX9_turn 20 = .ok (.invokevirtual 75, 3) := by decide +kernel
theorem dX9_turn_23 : decode cX9_turn 23 = .ok (.ireturn, 1) := by decide +kernel
theorem dX9_turnAll_0 : decode cX9_turnAll 0 = .ok (.aload_n 0, 1) := by decide +kernel
theorem dX9_turnAll_1 : decode cX9_turnAll 1 = .ok (.getfield 16, 3) := by decide +kernel
theorem dX9_turnAll_4 : decode cX9_turnAll 4 = .ok (.aload_n 0, 1) := by decide +kernel
theorem dX9_turnAll_5 : decode cX9_turnAll 5 = .ok (.getfield 12, 3) := by decide +kernel
theorem dX9_turnAll_8 : decode cX9_turnAll 8 = .ok (.invokevirtual 68, 3) := by decide +kernel
theorem dX9_turnAll_11 : decode cX9_turnAll 11 = .ok (.aload_n 0, 1) := by decide +kernel
theorem dX9_turnAll_12 : decode cX9_turnAll 12 = .ok (.aload_n 0, 1) := by decide +kernel
theorem dX9_turnAll_13 : decode cX9_turnAll 13 = .ok (.getfield 41, 3) := by decide +kernel
theorem dX9_turnAll_16 : decode cX9_turnAll 16 = .ok (.iload_n 1, 1) := by decide +kernel
theorem dX9_turnAll_17 : decode cX9_turnAll 17 = .ok (.invokevirtual 91, 3) := by decide +kernel
theorem dX9_turnAll_20 : decode cX9_turnAll 20 = .ok (.invokevirtual 75, 3) := by decide +kernel
theorem dX9_turnAll_23 : decode cX9_turnAll 23 = .ok (.ireturn, 1) := by decide +kernel
theorem dX9_logs_0 : decode cX9_logs 0 = .ok (.aload_n 0, 1) := by decide +kernel
theorem dX9_logs_1 : decode cX9_logs 1 = .ok (.getfield 16, 3) := by decide +kernel
theorem dX9_logs_4 : decode cX9_logs 4 = .ok (.aload_n 0, 1) := by decide +kernel
theorem dX9_logs_5 : decode cX9_logs 5 = .ok (.getfield 12, 3) := by decide +kernel
theorem dX9_logs_8 : decode cX9_logs 8 = .ok (.invokevirtual 68, 3) := by decide +kernel
theorem dX9_logs_11 : decode cX9_logs 11 = .ok (.aload_n 0, 1) := by decide +kernel
theorem dX9_logs_12 : decode cX9_logs 12 = .ok (.aload_n 0, 1) := by decide +kernel
theorem dX9_logs_13 : decode cX9_logs 13 = .ok (.getfield 41, 3) := by decide +kernel
theorem dX9_logs_16 : decode cX9_logs 16 = .ok (.iload_n 1, 1) := by decide +kernel
theorem dX9_logs_17 : decode cX9_logs 17 = .ok (.invokevirtual 94, 3) := by decide +kernel
theorem dX9_logs_20 : decode cX9_logs 20 = .ok (.invokevirtual 75, 3) := by decide +kernel
theorem dX9_logs_23 : decode cX9_logs 23 = .ok (.ireturn, 1) := by decide +kernel
theorem dX9_wood_0 : decode cX9_wood 0 = .ok (.aload_n 0, 1) := by decide +kernel
theorem dX9_wood_1 : decode cX9_wood 1 = .ok (.getfield 16, 3) := by decide +kernel
theorem dX9_wood_4 : decode cX9_wood 4 = .ok (.aload_n 0, 1) := by decide +kernel
theorem dX9_wood_5 : decode cX9_wood 5 = .ok (.getfield 12, 3) := by decide +kernel
theorem dX9_wood_8 : decode cX9_wood 8 = .ok (.invokevirtual 68, 3) := by decide +kernel
theorem dX9_wood_11 : decode cX9_wood 11 = .ok (.aload_n 0, 1) := by decide +kernel
theorem dX9_wood_12 : decode cX9_wood 12 = .ok (.aload_n 0, 1) := by decide +kernel
theorem dX9_wood_13 : decode cX9_wood 13 = .ok (.getfield 41, 3) := by decide +kernel
theorem dX9_wood_16 : decode cX9_wood 16 = .ok (.iload_n 1, 1) := by decide +kernel
theorem dX9_wood_17 : decode cX9_wood 17 = .ok (.invokevirtual 97, 3) := by decide +kernel
theorem dX9_wood_20 : decode cX9_wood 20 = .ok (.invokevirtual 75, 3) := by decide +kernel
theorem dX9_wood_23 : decode cX9_wood 23 = .ok (.ireturn, 1) := by decide +kernel
theorem dX9_day_0 : decode cX9_day 0 = .ok (.aload_n 0, 1) := by decide +kernel
theorem dX9_day_1 : decode cX9_day 1 = .ok (.getfield 16, 3) := by decide +kernel
theorem dX9_day_4 : decode cX9_day 4 = .ok (.aload_n 0, 1) := by decide +kernel
theorem dX9_day_5 : decode cX9_day 5 = .ok (.getfield 12, 3) := by decide +kernel
theorem dX9_day_8 : decode cX9_day 8 = .ok (.invokevirtual 68, 3) := by decide +kernel
theorem dX9_day_11 : decode cX9_day 11 = .ok (.aload_n 0, 1) := by decide +kernel
theorem dX9_day_12 : decode cX9_day 12 = .ok (.aload_n 0, 1) := by decide +kernel
theorem dX9_day_13 : decode cX9_day 13 = .ok (.getfield 41, 3) := by decide +kernel
theorem dX9_day_16 : decode cX9_day 16 = .ok (.invokevirtual 100, 3) := by decide +kernel
theorem dX9_day_19 : decode cX9_day 19 = .ok (.invokevirtual 75, 3) := by decide +kernel
theorem dX9_day_22 : decode cX9_day 22 = .ok (.ireturn, 1) := by decide +kernel
theorem dX9_hours_0 : decode cX9_hours 0 = .ok (.aload_n 0, 1) := by decide +kernel
theorem dX9_hours_1 : decode cX9_hours 1 = .ok (.getfield 16, 3) := by decide +kernel
theorem dX9_hours_4 : decode cX9_hours 4 = .ok (.aload_n 0, 1) := by decide +kernel
theorem dX9_hours_5 : decode cX9_hours 5 = .ok (.getfield 12, 3) := by decide +kernel
theorem dX9_hours_8 : decode cX9_hours 8 = .ok (.invokevirtual 68, 3) := by decide +kernel
theorem dX9_hours_11 : decode cX9_hours 11 = .ok (.aload_n 0, 1) := by decide +kernel
theorem dX9_hours_12 : decode cX9_hours 12 = .ok (.aload_n 0, 1) := by decide +kernel
theorem dX9_hours_13 : decode cX9_hours 13 = .ok (.getfield 41, 3) := by decide +kernel
theorem dX9_hours_16 : decode cX9_hours 16 = .ok (.iload_n 1, 1) := by decide +kernel
theorem dX9_hours_17 : decode cX9_hours 17 = .ok (.invokevirtual 104, 3) := by decide +kernel
theorem dX9_hours_20 : decode cX9_hours 20 = .ok (.invokevirtual 75, 3) := by decide +kernel
theorem dX9_hours_23 : decode cX9_hours 23 = .ok (.ireturn, 1) := by decide +kernel
theorem dX9_sell_0 : decode cX9_sell 0 = .ok (.aload_n 0, 1) := by decide +kernel
theorem dX9_sell_1 : decode cX9_sell 1 = .ok (.getfield 16, 3) := by decide +kernel
theorem dX9_sell_4 : decode cX9_sell 4 = .ok (.aload_n 0, 1) := by decide +kernel
theorem dX9_sell_5 : decode cX9_sell 5 = .ok (.getfield 12, 3) := by decide +kernel
theorem dX9_sell_8 : decode cX9_sell 8 = .ok (.invokevirtual 68, 3) := by decide +kernel
theorem dX9_sell_11 : decode cX9_sell 11 = .ok (.aload_n 0, 1) := by decide +kernel
theorem dX9_sell_12 : decode cX9_sell 12 = .ok (.aload_n 0, 1) := by decide +kernel
theorem dX9_sell_13 : decode cX9_sell 13 = .ok (.getfield 41, 3) := by decide +kernel
theorem dX9_sell_16 : decode cX9_sell 16 = .ok (.iload_n 1, 1) := by decide +kernel
theorem dX9_sell_17 : decode cX9_sell 17 = .ok (.invokevirtual 107, 3) := by decide +kernel
theorem dX9_sell_20 : decode cX9_sell 20 = .ok (.invokevirtual 75, 3) := by decide +kernel
theorem dX9_sell_23 : decode cX9_sell 23 = .ok (.ireturn, 1) := by decide +kernel
theorem dX9_throwAway_0 : decode cX9_throwAway 0 = .ok (.aload_n 0, 1) := by decide +kernel
theorem dX9_throwAway_1 : decode cX9_throwAway 1 = .ok (.getfield 16, 3) := by decide +kernel
theorem dX9_throwAway_4 : decode cX9_throwAway 4 = .ok (.aload_n 0, 1) := by decide +kernel
theorem dX9_throwAway_5 : decode cX9_throwAway 5 = .ok (.getfield 12, 3) := by decide +kernel
theorem dX9_throwAway_8 : decode cX9_throwAway 8 = .ok (.invokevirtual 68, 3) := by decide +kernel
theorem dX9_throwAway_11 : decode cX9_throwAway 11 = .ok (.aload_n 0, 1) := by decide +kernel
theorem dX9_throwAway_12 : decode cX9_throwAway 12 = .ok (.aload_n 0, 1) := by decide +kernel
theorem dX9_throwAway_13 : decode cX9_throwAway 13 = .ok (.getfield 41, 3) := by decide +kernel
theorem dX9_throwAway_16 : decode cX9_throwAway 16 = .ok (.iload_n 1, 1) := by decide +kernel
theorem dX9_throwAway_17 : decode cX9_throwAway 17 = .ok (.invokevirtual 110, 3) := by decide +kernel
theorem dX9_throwAway_20 : decode cX9_throwAway 20 = .ok (.invokevirtual 75, 3) := by decide +kernel
theorem dX9_throwAway_23 : decode cX9_throwAway 23 = .ok (.ireturn, 1) := by decide +kernel
theorem dX9_fishOf_0 : decode cX9_fishOf 0 = .ok (.aload_n 0, 1) := by decide +kernel
theorem dX9_fishOf_1 : decode cX9_fishOf 1 = .ok (.iload_n 1, 1) := by decide +kernel
theorem dX9_fishOf_2 : decode cX9_fishOf 2 = .ok (.invokevirtual 113, 3) := by decide +kernel
theorem dX9_fishOf_5 : decode cX9_fishOf 5 = .ok (.iload_n 2, 1) := by decide +kernel
theorem dX9_fishOf_6 : decode cX9_fishOf 6 = .ok (.ifCond .lt 9, 3) := by decide +kernel
theorem dX9_fishOf_9 : decode cX9_fishOf 9 = .ok (.iload_n 2, 1) := by decide +kernel
theorem dX9_fishOf_10 : decode cX9_fishOf 10 = .ok (.bipush 9, 2) := by decide +kernel
theorem dX9_fishOf_12 : decode cX9_fishOf 12 = .ok (.if_icmp .lt 11, 3) := by decide +kernel
theorem dX9_fishOf_15 : decode cX9_fishOf 15 = .ok (.new 117, 3) := by decide +kernel
theorem dX9_fishOf_18 : decode cX9_fishOf 18 = .ok (.dup, 1) := by decide +kernel
theorem dX9_fishOf_19 : decode cX9_fishOf 19 = .ok (.invokespecial 119, 3) := by decide +kernel
theorem dX9_fishOf_22 : decode cX9_fishOf 22 = .ok (.athrow, 1) := by decide +kernel
theorem dX9_fishOf_23 : decode cX9_fishOf 23 = .ok (.aload_n 0, 1) := by decide +kernel
theorem dX9_fishOf_24 : decode cX9_fishOf 24 = .ok (.getfield 12, 3) := by decide +kernel
theorem dX9_fishOf_27 : decode cX9_fishOf 27 = .ok (.iload_n 1, 1) := by decide +kernel
theorem dX9_fishOf_28 : decode cX9_fishOf 28 = .ok (.invokevirtual 120, 3) := by decide +kernel
theorem dX9_fishOf_31 : decode cX9_fishOf 31 = .ok (.iload_n 2, 1) := by decide +kernel
theorem dX9_fishOf_32 : decode cX9_fishOf 32 = .ok (.invokevirtual 124, 3) := by decide +kernel
theorem dX9_fishOf_35 : decode cX9_fishOf 35 = .ok (.ireturn, 1) := by decide +kernel
theorem dX9_sideOf_0 : decode cX9_sideOf 0 = .ok (.aload_n 0, 1) := by decide +kernel
theorem dX9_sideOf_1 : decode cX9_sideOf 1 = .ok (.iload_n 1, 1) := by decide +kernel
theorem dX9_sideOf_2 : decode cX9_sideOf 2 = .ok (.invokevirtual 113, 3) := by decide +kernel
theorem dX9_sideOf_5 : decode cX9_sideOf 5 = .ok (.iload_n 2, 1) := by decide +kernel
theorem dX9_sideOf_6 : decode cX9_sideOf 6 = .ok (.ifCond .lt 8, 3) := by decide +kernel
theorem dX9_sideOf_9 : decode cX9_sideOf 9 = .ok (.iload_n 2, 1) := by decide +kernel
theorem dX9_sideOf_10 : decode cX9_sideOf 10 = .ok (.iconst 2, 1) := by decide +kernel
theorem dX9_sideOf_11 : decode cX9_sideOf 11 = .ok (.if_icmp .lt 11, 3) := by decide +kernel
theorem dX9_sideOf_14 : decode cX9_sideOf 14 = .ok (.new 117, 3) := by decide +kernel
theorem dX9_sideOf_17 : decode cX9_sideOf 17 = .ok (.dup, 1) := by decide +kernel
theorem dX9_sideOf_18 : decode cX9_sideOf 18 = .ok (.invokespecial 119, 3) := by decide +kernel
theorem dX9_sideOf_21 : decode cX9_sideOf 21 = .ok (.athrow, 1) := by decide +kernel
theorem dX9_sideOf_22 : decode cX9_sideOf 22 = .ok (.aload_n 0, 1) := by decide +kernel
theorem dX9_sideOf_23 : decode cX9_sideOf 23 = .ok (.getfield 12, 3) := by decide +kernel
theorem dX9_sideOf_26 : decode cX9_sideOf 26 = .ok (.iload_n 1, 1) := by decide +kernel
theorem dX9_sideOf_27 : decode cX9_sideOf 27 = .ok (.invokevirtual 120, 3) := by decide +kernel
theorem dX9_sideOf_30 : decode cX9_sideOf 30 = .ok (.iload_n 2, 1) := by decide +kernel
theorem dX9_sideOf_31 : decode cX9_sideOf 31 = .ok (.invokevirtual 129, 3) := by decide +kernel
theorem dX9_sideOf_34 : decode cX9_sideOf 34 = .ok (.astore 4, 2) := by decide +kernel
theorem dX9_sideOf_36 : decode cX9_sideOf 36 = .ok (.iload_n 3, 1) := by decide +kernel
theorem dX9_sideOf_37 : decode cX9_sideOf 37 = .ok (.ifCond .eq 11, 3) := by decide +kernel
theorem dX9_sideOf_40 : decode cX9_sideOf 40 = .ok (.aload 4, 2) := by decide +kernel
theorem dX9_sideOf_42 : decode cX9_sideOf 42 = .ok (.getfield 133, 3) := by decide +kernel
theorem dX9_sideOf_45 : decode cX9_sideOf 45 = .ok (.goto 8, 3) := by decide +kernel
theorem dX9_sideOf_48 : decode cX9_sideOf 48 = .ok (.aload 4, 2) := by decide +kernel
theorem dX9_sideOf_50 : decode cX9_sideOf 50 = .ok (.getfield 139, 3) := by decide +kernel
theorem dX9_sideOf_53 : decode cX9_sideOf 53 = .ok (.ireturn, 1) := by decide +kernel
theorem dX9_at_0 : decode cX9_at 0 = .ok (.iload_n 1, 1) := by decide +kernel
theorem dX9_at_1 : decode cX9_at 1 = .ok (.invokestatic 142, 3) := by decide +kernel
theorem dX9_at_4 : decode cX9_at 4 = .ok (.ifCond .eq 10, 3) := by decide +kernel
theorem dX9_at_7 : decode cX9_at 7 = .ok (.iload_n 2, 1) := by decide +kernel
theorem dX9_at_8 : decode cX9_at 8 = .ok (.invokestatic 146, 3) := by decide +kernel
theorem dX9_at_11 : decode cX9_at 11 = .ok (.ifCond .ne 11, 3) := by decide +kernel
theorem dX9_at_14 : decode cX9_at 14 = .ok (.new 149, 3) := by decide +kernel
theorem dX9_at_17 : decode cX9_at 17 = .ok (.dup, 1) := by decide +kernel
theorem dX9_at_18 : decode cX9_at 18 = .ok (.invokespecial 151, 3) := by decide +kernel
theorem dX9_at_21 : decode cX9_at 21 = .ok (.athrow, 1) := by decide +kernel
theorem dX9_at_22 : decode cX9_at 22 = .ok (.aload_n 0, 1) := by decide +kernel
theorem dX9_at_23 : decode cX9_at 23 = .ok (.aload_n 0, 1) := by decide +kernel
theorem dX9_at_24 : decode cX9_at 24 = .ok (.getfield 12, 3) := by decide +kernel
theorem dX9_at_27 : decode cX9_at 27 = .ok (.iload_n 1, 1) := by decide +kernel
theorem dX9_at_28 : decode cX9_at 28 = .ok (.iload_n 2, 1) := by decide +kernel
theorem dX9_at_29 : decode cX9_at 29 = .ok (.invokevirtual 152, 3) := by decide +kernel
theorem dX9_at_32 : decode cX9_at 32 = .ok (.invokevirtual 156, 3) := by decide +kernel
theorem dX9_at_35 : decode cX9_at 35 = .ok (.ireturn, 1) := by decide +kernel
theorem dX9_heat_0 : decode cX9_heat 0 = .ok (.aload_n 0, 1) := by decide +kernel
theorem dX9_heat_1 : decode cX9_heat 1 = .ok (.iload_n 1, 1) := by decide +kernel
theorem dX9_heat_2 : decode cX9_heat 2 = .ok (.invokevirtual 159, 3) := by decide +kernel
theorem dX9_heat_5 : decode cX9_heat 5 = .ok (.aload_n 0, 1) := by decide +kernel
theorem dX9_heat_6 : decode cX9_heat 6 = .ok (.getfield 12, 3) := by decide +kernel
theorem dX9_heat_9 : decode cX9_heat 9 = .ok (.getfield 162, 3) := by decide +kernel
theorem dX9_heat_12 : decode cX9_heat 12 = .ok (.iload_n 1, 1) := by decide +kernel
theorem dX9_heat_13 : decode cX9_heat 13 = .ok (.invokestatic 165, 3) := by decide +kernel
theorem dX9_heat_16 : decode cX9_heat 16 = .ok (.ireturn, 1) := by decide +kernel
theorem dX9_nearest_0 : decode cX9_nearest 0 = .ok (.aload_n 0, 1) := by decide +kernel
theorem dX9_nearest_1 : decode cX9_nearest 1 = .ok (.iload_n 1, 1) := by decide +kernel
theorem dX9_nearest_2 : decode cX9_nearest 2 = .ok (.invokevirtual 113, 3) := by decide +kernel
theorem dX9_nearest_5 : decode cX9_nearest 5 = .ok (.aload_n 0, 1) := by decide +kernel
theorem dX9_nearest_6 : decode cX9_nearest 6 = .ok (.getfield 12, 3) := by decide +kernel
theorem dX9_nearest_9 : decode cX9_nearest 9 = .ok (.iload_n 1, 1) := by decide +kernel
theorem dX9_nearest_10 : decode cX9_nearest 10 = .ok (.invokevirtual 168, 3) := by decide +kernel
theorem dX9_nearest_13 : decode cX9_nearest 13 = .ok (.istore_n 2, 1) := by decide +kernel
theorem dX9_nearest_14 : decode cX9_nearest 14 = .ok (.iload_n 2, 1) := by decide +kernel
theorem dX9_nearest_15 : decode cX9_nearest 15 = .ok (.bipush 10, 2) := by decide +kernel
theorem dX9_nearest_17 : decode cX9_nearest 17 = .ok (.if_icmp .ne 11, 3) := by decide +kernel
theorem dX9_nearest_20 : decode cX9_nearest 20 = .ok (.new 171, 3) := by decide +kernel
theorem dX9_nearest_23 : decode cX9_nearest 23 = .ok (.dup, 1) := by decide +kernel
theorem dX9_nearest_24 : decode cX9_nearest 24 = .ok (.invokespecial 173, 3) := by decide +kernel
theorem dX9_nearest_27 : decode cX9_nearest 27 = .ok (.athrow, 1) := by decide +kernel
theorem dX9_nearest_28 : decode cX9_nearest 28 = .ok (.iload_n 2, 1) := by decide +kernel
theorem dX9_nearest_29 : decode cX9_nearest 29 = .ok (.ireturn, 1) := by decide +kernel
theorem dX9_isCrowded_0 : decode cX9_isCrowded 0 = .ok (.aload_n 0, 1) := by decide +kernel
theorem dX9_isCrowded_1 : decode cX9_isCrowded 1 = .ok (.iload_n 1, 1) := by decide +kernel
theorem dX9_isCrowded_2 : decode cX9_isCrowded 2 = .ok (.invokevirtual 113, 3) := by decide +kernel
theorem dX9_isCrowded_5 : decode cX9_isCrowded 5 = .ok (.aload_n 0, 1) := by decide +kernel
theorem dX9_isCrowded_6 : decode cX9_isCrowded 6 = .ok (.getfield 12, 3) := by decide +kernel
theorem dX9_isCrowded_9 : decode cX9_isCrowded 9 = .ok (.iload_n 1, 1) := by decide +kernel
theorem dX9_isCrowded_10 : decode cX9_isCrowded 10 = .ok (.invokevirtual 174, 3) := by decide +kernel
theorem dX9_isCrowded_13 : decode cX9_isCrowded 13 = .ok (.ireturn, 1) := by decide +kernel
theorem dX9_isDone_0 : decode cX9_isDone 0 = .ok (.aload_n 0, 1) := by decide +kernel
theorem dX9_isDone_1 : decode cX9_isDone 1 = .ok (.iload_n 1, 1) := by decide +kernel
theorem dX9_isDone_2 : decode cX9_isDone 2 = .ok (.invokevirtual 113, 3) := by decide +kernel
theorem dX9_isDone_5 : decode cX9_isDone 5 = .ok (.aload_n 0, 1) := by decide +kernel
theorem dX9_isDone_6 : decode cX9_isDone 6 = .ok (.getfield 12, 3) := by decide +kernel
theorem dX9_isDone_9 : decode cX9_isDone 9 = .ok (.iload_n 1, 1) := by decide +kernel
theorem dX9_isDone_10 : decode cX9_isDone 10 = .ok (.invokevirtual 120, 3) := by decide +kernel
theorem dX9_isDone_13 : decode cX9_isDone 13 = .ok (.invokevirtual 177, 3) := by decide +kernel
theorem dX9_isDone_16 : decode cX9_isDone 16 = .ok (.ireturn, 1) := by decide +kernel
theorem dX9_wouldChar_0 : decode cX9_wouldChar 0 = .ok (.aload_n 0, 1) := by decide +kernel
theorem dX9_wouldChar_1 : decode cX9_wouldChar 1 = .ok (.iload_n 1, 1) := by decide +kernel
theorem dX9_wouldChar_2 : decode cX9_wouldChar 2 = .ok (.invokevirtual 113, 3) := by decide +kernel
theorem dX9_wouldChar_5 : decode cX9_wouldChar 5 = .ok (.aload_n 0, 1) := by decide +kernel
theorem dX9_wouldChar_6 : decode cX9_wouldChar 6 = .ok (.iload_n 2, 1) := by decide +kernel
theorem dX9_wouldChar_7 : decode cX9_wouldChar 7 = .ok (.invokevirtual 181, 3) := by decide +kernel
theorem dX9_wouldChar_10 : decode cX9_wouldChar 10 = .ok (.aload_n 0, 1) := by decide +kernel
theorem dX9_wouldChar_11 : decode cX9_wouldChar 11 = .ok (.getfield 50, 3) := by decide +kernel
theorem dX9_wouldChar_14 : decode cX9_wouldChar 14 = .ok (.iload_n 1, 1) := by decide +kernel
theorem dX9_wouldChar_15 : decode cX9_wouldChar 15 = .ok (.iload_n 2, 1) := by decide +kernel
theorem dX9_wouldChar_16 : decode cX9_wouldChar 16 = .ok (.invokevirtual 184, 3) := by decide +kernel
theorem dX9_wouldChar_19 : decode cX9_wouldChar 19 = .ok (.ireturn, 1) := by decide +kernel
theorem dX9_wouldCharAgain_0 : decode cX9_wouldCharAgain 0 = .ok (.aload_n 0, 1) := by decide +kernel
theorem dX9_wouldCharAgain_1 : decode cX9_wouldCharAgain 1 = .ok (.iload_n 1, 1) := by decide +kernel
theorem dX9_wouldCharAgain_2 : decode cX9_wouldCharAgain 2 = .ok (.invokevirtual 113, 3) := by decide +kernel
theorem dX9_wouldCharAgain_5 : decode cX9_wouldCharAgain 5 = .ok (.aload_n 0, 1) := by decide +kernel
theorem dX9_wouldCharAgain_6 : decode cX9_wouldCharAgain 6 = .ok (.iload_n 2, 1) := by decide +kernel
theorem dX9_wouldCharAgain_7 : decode cX9_wouldCharAgain 7 = .ok (.invokevirtual 181, 3) := by decide +kernel
theorem dX9_wouldCharAgain_10 : decode cX9_wouldCharAgain 10 = .ok (.aload_n 0, 1) := by decide +kernel
theorem dX9_wouldCharAgain_11 : decode cX9_wouldCharAgain 11 = .ok (.getfield 50, 3) := by decide +kernel
theorem dX9_wouldCharAgain_14 : decode cX9_wouldCharAgain 14 = .ok (.iload_n 1, 1) := by decide +kernel
theorem dX9_wouldCharAgain_15 : decode cX9_wouldCharAgain 15 = .ok (.iload_n 2, 1) := by decide +kernel
theorem dX9_wouldCharAgain_16 : decode cX9_wouldCharAgain 16 = .ok (.invokevirtual 187, 3) := by decide +kernel
theorem dX9_wouldCharAgain_19 : decode cX9_wouldCharAgain 19 = .ok (.ireturn, 1) := by decide +kernel
theorem dX9_burnsIn_0 : decode cX9_burnsIn 0 = .ok (.aload_n 0, 1) := by decide +kernel
theorem dX9_burnsIn_1 : decode cX9_burnsIn 1 = .ok (.iload_n 1, 1) := by decide +kernel
theorem dX9_burnsIn_2 : decode cX9_burnsIn 2 = .ok (.invokevirtual 113, 3) := by decide +kernel
theorem dX9_burnsIn_5 : decode cX9_burnsIn 5 = .ok (.aload_n 0, 1) := by decide +kernel
theorem dX9_burnsIn_6 : decode cX9_burnsIn 6 = .ok (.aload_n 0, 1) := by decide +kernel
theorem dX9_burnsIn_7 : decode cX9_burnsIn 7 = .ok (.getfield 50, 3) := by decide +kernel
theorem dX9_burnsIn_10 : decode cX9_burnsIn 10 = .ok (.iload_n 1, 1) := by decide +kernel
theorem dX9_burnsIn_11 : decode cX9_burnsIn 11 = .ok (.invokevirtual 190, 3) := by decide +kernel
theorem dX9_burnsIn_14 : decode cX9_burnsIn 14 = .ok (.invokevirtual 156, 3) := by decide +kernel
theorem dX9_burnsIn_17 : decode cX9_burnsIn 17 = .ok (.ireturn, 1) := by decide +kernel
theorem dX9_doneIn_0 : decode cX9_doneIn 0 = .ok (.aload_n 0, 1) := by decide +kernel
theorem dX9_doneIn_1 : decode cX9_doneIn 1 = .ok (.iload_n 1, 1) := by decide +kernel
theorem dX9_doneIn_2 : decode cX9_doneIn 2 = .ok (.invokevirtual 113, 3) := by decide +kernel
theorem dX9_doneIn_5 : decode cX9_doneIn 5 = .ok (.aload_n 0, 1) := by decide +kernel
theorem dX9_doneIn_6 : decode cX9_doneIn 6 = .ok (.aload_n 0, 1) := by decide +kernel
theorem dX9_doneIn_7 : decode cX9_doneIn 7 = .ok (.getfield 50, 3) := by decide +kernel
theorem dX9_doneIn_10 : decode cX9_doneIn 10 = .ok (.iload_n 1, 1) := by decide +kernel
theorem dX9_doneIn_11 : decode cX9_doneIn 11 = .ok (.invokevirtual 193, 3) := by decide +kernel
theorem dX9_doneIn_14 : decode cX9_doneIn 14 = .ok (.invokevirtual 156, 3) := by decide +kernel
theorem dX9_doneIn_17 : decode cX9_doneIn 17 = .ok (.ireturn, 1) := by decide +kernel
theorem dX9_hottest_0 : decode cX9_hottest 0 = .ok (.aload_n 0, 1) := by decide +kernel
theorem dX9_hottest_1 : decode cX9_hottest 1 = .ok (.aload_n 0, 1) := by decide +kernel
theorem dX9_hottest_2 : decode cX9_hottest 2 = .ok (.getfield 50, 3) := by decide +kernel
theorem dX9_hottest_5 : decode cX9_hottest 5 = .ok (.invokevirtual 196, 3) := by decide +kernel
theorem dX9_hottest_8 : decode cX9_hottest 8 = .ok (.invokevirtual 156, 3) := by decide +kernel
theorem dX9_hottest_11 : decode cX9_hottest 11 = .ok (.ireturn, 1) := by decide +kernel
theorem dX9_bestHook_0 : decode cX9_bestHook 0 = .ok (.aload_n 0, 1) := by decide +kernel
theorem dX9_bestHook_1 : decode cX9_bestHook 1 = .ok (.iload_n 1, 1) := by decide +kernel
theorem dX9_bestHook_2 : decode cX9_bestHook 2 = .ok (.invokevirtual 113, 3) := by decide +kernel
theorem dX9_bestHook_5 : decode cX9_bestHook 5 = .ok (.aload_n 0, 1) := by decide +kernel
theorem dX9_bestHook_6 : decode cX9_bestHook 6 = .ok (.iload_n 2, 1) := by decide +kernel
theorem dX9_bestHook_7 : decode cX9_bestHook 7 = .ok (.invokevirtual 159, 3) := by decide +kernel
theorem dX9_bestHook_10 : decode cX9_bestHook 10 = .ok (.aload_n 0, 1) := by decide +kernel
theorem dX9_bestHook_11 : decode cX9_bestHook 11 = .ok (.aload_n 0, 1) := by decide +kernel
theorem dX9_bestHook_12 : decode cX9_bestHook 12 = .ok (.getfield 12, 3) := by decide +kernel
theorem dX9_bestHook_15 : decode cX9_bestHook 15 = .ok (.iload_n 1, 1) := by decide +kernel
theorem dX9_bestHook_16 : decode cX9_bestHook 16 = .ok (.iload_n 2, 1) := by decide +kernel
theorem dX9_bestHook_17 : decode cX9_bestHook 17 = .ok (.invokevirtual 199, 3) := by decide +kernel
theorem dX9_bestHook_20 : decode cX9_bestHook 20 = .ok (.invokevirtual 156, 3) := by decide +kernel
theorem dX9_bestHook_23 : decode cX9_bestHook 23 = .ok (.ireturn, 1) := by decide +kernel
theorem dX9_crowded_0 : decode cX9_crowded 0 = .ok (.iconst 0, 1) := by decide +kernel
theorem dX9_crowded_1 : decode cX9_crowded 1 = .ok (.istore_n 1, 1) := by decide +kernel
theorem dX9_crowded_2 : decode cX9_crowded 2 = .ok (.iconst 0, 1) := by decide +kernel
theorem dX9_crowded_3 : decode cX9_crowded 3 = .ok (.istore_n 2, 1) := by decide +kernel
theorem dX9_crowded_4 : decode cX9_crowded 4 = .ok (.iload_n 2, 1) := by decide +kernel
theorem dX9_crowded_5 : decode cX9_crowded 5 = .ok (.aload_n 0, 1) := by decide +kernel
theorem dX9_crowded_6 : decode cX9_crowded 6 = .ok (.getfield 12, 3) := by decide +kernel
theorem dX9_crowded_9 : decode cX9_crowded 9 = .ok (.getfield 202, 3) := by decide +kernel
theorem dX9_crowded_12 : decode cX9_crowded 12 = .ok (.if_icmp .ge 28, 3) := by decide +kernel
theorem dX9_crowded_15 : decode cX9_crowded 15 = .ok (.iload_n 1, 1) := by decide +kernel
theorem dX9_crowded_16 : decode cX9_crowded 16 = .ok (.aload_n 0, 1) := by decide +kernel
theorem dX9_crowded_17 : decode cX9_crowded 17 = .ok (.getfield 12, 3) := by decide +kernel
theorem dX9_crowded_20 : decode cX9_crowded 20 = .ok (.iload_n 2, 1) := by decide +kernel
theorem dX9_crowded_21 : decode cX9_crowded 21 = .ok (.invokevirtual 174, 3) := by decide +kernel
theorem dX9_crowded_24 : decode cX9_crowded 24 = .ok (.ifCond .eq 7, 3) := by decide +kernel
theorem dX9_crowded_27 : decode cX9_crowded 27 = .ok (.iconst 1, 1) := by decide +kernel
theorem dX9_crowded_28 : decode cX9_crowded 28 = .ok (.goto 4, 3) := by decide +kernel
theorem dX9_crowded_31 : decode cX9_crowded 31 = .ok (.iconst 0, 1) := by decide +kernel
theorem dX9_crowded_32 : decode cX9_crowded 32 = .ok (.iadd, 1) := by decide +kernel
theorem dX9_crowded_33 : decode cX9_crowded 33 = .ok (.istore_n 1, 1) := by decide +kernel
theorem dX9_crowded_34 : decode cX9_crowded 34 = .ok (.iinc 2 1, 3) := by decide +kernel
theorem dX9_crowded_37 : decode cX9_crowded 37 = .ok (.goto (-33), 3) := by decide +kernel
theorem dX9_crowded_40 : decode cX9_crowded 40 = .ok (.iload_n 1, 1) := by decide +kernel
theorem dX9_crowded_41 : decode cX9_crowded 41 = .ok (.ireturn, 1) := by decide +kernel
theorem dX9_ranked_0 : decode cX9_ranked 0 = .ok (.iload_n 1, 1) := by decide +kernel
theorem dX9_ranked_1 : decode cX9_ranked 1 = .ok (.ifCond .lt 8, 3) := by decide +kernel
theorem dX9_ranked_4 : decode cX9_ranked 4 = .ok (.iload_n 1, 1) := by decide +kernel
theorem dX9_ranked_5 : decode cX9_ranked 5 = .ok (.iconst 5, 1) := by decide +kernel
theorem dX9_ranked_6 : decode cX9_ranked 6 = .ok (.if_icmp .lt 11, 3) := by decide +kernel
theorem dX9_ranked_9 : decode cX9_ranked 9 = .ok (.new 117, 3) := by decide +kernel
theorem dX9_ranked_12 : decode cX9_ranked 12 = .ok (.dup, 1) := by decide +kernel
theorem dX9_ranked_13 : decode cX9_ranked 13 = .ok (.invokespecial 119, 3) := by decide +kernel
theorem dX9_ranked_16 : decode cX9_ranked 16 = .ok (.athrow, 1) := by decide +kernel
theorem dX9_ranked_17 : decode cX9_ranked 17 = .ok (.aload_n 0, 1) := by decide +kernel
theorem dX9_ranked_18 : decode cX9_ranked 18 = .ok (.aload_n 0, 1) := by decide +kernel
theorem dX9_ranked_19 : decode cX9_ranked 19 = .ok (.getfield 12, 3) := by decide +kernel
theorem dX9_ranked_22 : decode cX9_ranked 22 = .ok (.iload_n 1, 1) := by decide +kernel
theorem dX9_ranked_23 : decode cX9_ranked 23 = .ok (.iload_n 2, 1) := by decide +kernel
theorem dX9_ranked_24 : decode cX9_ranked 24 = .ok (.invokevirtual 205, 3) := by decide +kernel
theorem dX9_ranked_27 : decode cX9_ranked 27 = .ok (.invokevirtual 156, 3) := by decide +kernel
theorem dX9_ranked_30 : decode cX9_ranked 30 = .ok (.ireturn, 1) := by decide +kernel
theorem dX9_append_0 : decode cX9_append 0 = .ok (.aload_n 0, 1) := by decide +kernel
theorem dX9_append_1 : decode cX9_append 1 = .ok (.getfield 57, 3) := by decide +kernel
theorem dX9_append_4 : decode cX9_append 4 = .ok (.getfield 208, 3) := by decide +kernel
theorem dX9_append_7 : decode cX9_append 7 = .ok (.bipush 60, 2) := by decide +kernel
theorem dX9_append_9 : decode cX9_append 9 = .ok (.if_icmp .lt 11, 3) := by decide +kernel
theorem dX9_append_12 : decode cX9_append 12 = .ok (.new 211, 3) := by decide +kernel
theorem dX9_append_15 : decode cX9_append 15 = .ok (.dup, 1) := by decide +kernel
theorem dX9_append_16 : decode cX9_append 16 = .ok (.invokespecial 213, 3) := by decide +kernel
theorem dX9_append_19 : decode cX9_append 19 = .ok (.athrow, 1) := by decide +kernel
theorem dX9_append_20 : decode cX9_append 20 = .ok (.aload_n 0, 1) := by decide +kernel
theorem dX9_append_21 : decode cX9_append 21 = .ok (.getfield 57, 3) := by decide +kernel
theorem dX9_append_24 : decode cX9_append 24 = .ok (.iload_n 1, 1) := by decide +kernel
theorem dX9_append_25 : decode cX9_append 25 = .ok (.invokevirtual 214, 3) := by decide +kernel
theorem dX9_append_28 : decode cX9_append 28 = .ok (.aload_n 0, 1) := by decide +kernel
theorem dX9_append_29 : decode cX9_append 29 = .ok (.getfield 57, 3) := by decide +kernel
theorem dX9_append_32 : decode cX9_append 32 = .ok (.getfield 208, 3) := by decide +kernel
theorem dX9_append_35 : decode cX9_append 35 = .ok (.ireturn, 1) := by decide +kernel
theorem dX9_commands_0 : decode cX9_commands 0 = .ok (.aload_n 0, 1) := by decide +kernel
theorem dX9_commands_1 : decode cX9_commands 1 = .ok (.getfield 57, 3) := by decide +kernel
theorem dX9_commands_4 : decode cX9_commands 4 = .ok (.invokevirtual 218, 3) := by decide +kernel
theorem dX9_commands_7 : decode cX9_commands 7 = .ok (.aload_n 0, 1) := by decide +kernel
theorem dX9_commands_8 : decode cX9_commands 8 = .ok (.getfield 57, 3) := by decide +kernel
theorem dX9_commands_11 : decode cX9_commands 11 = .ok (.getfield 221, 3) := by decide +kernel
theorem dX9_commands_14 : decode cX9_commands 14 = .ok (.iconst (-1), 1) := by decide +kernel
theorem dX9_commands_15 : decode cX9_commands 15 = .ok (.if_icmp .eq 18, 3) := by decide +kernel
theorem dX9_commands_18 : decode cX9_commands 18 = .ok (.aload_n 0, 1) := by decide +kernel
theorem dX9_commands_19 : decode cX9_commands 19 = .ok (.getfield 57, 3) := by decide +kernel
theorem dX9_commands_22 : decode cX9_commands 22 = .ok (.invokevirtual 224, 3) := by decide +kernel
theorem dX9_commands_25 : decode cX9_commands 25 = .ok (.new 117, 3) := by decide +kernel
theorem dX9_commands_28 : decode cX9_commands 28 = .ok (.dup, 1) := by decide +kernel
theorem dX9_commands_29 : decode cX9_commands 29 = .ok (.invokespecial 119, 3) := by decide +kernel
theorem dX9_commands_32 : decode cX9_commands 32 = .ok (.athrow, 1) := by decide +kernel
theorem dX9_commands_33 : decode cX9_commands 33 = .ok (.aload_n 0, 1) := by decide +kernel
theorem dX9_commands_34 : decode cX9_commands 34 = .ok (.getfield 16, 3) := by decide +kernel
theorem dX9_commands_37 : decode cX9_commands 37 = .ok (.aload_n 0, 1) := by decide +kernel
theorem dX9_commands_38 : decode cX9_commands 38 = .ok (.getfield 12, 3) := by decide +kernel
theorem dX9_commands_41 : decode cX9_commands 41 = .ok (.invokevirtual 68, 3) := by decide +kernel
theorem dX9_commands_44 : decode cX9_commands 44 = .ok (.aload_n 0, 1) := by decide +kernel
theorem dX9_commands_45 : decode cX9_commands 45 = .ok (.getfield 57, 3) := by decide +kernel
theorem dX9_commands_48 : decode cX9_commands 48 = .ok (.invokevirtual 227, 3) := by decide +kernel
theorem dX9_commands_51 : decode cX9_commands 51 = .ok (.iconst 0, 1) := by decide +kernel
theorem dX9_commands_52 : decode cX9_commands 52 = .ok (.istore_n 1, 1) := by decide +kernel
theorem dX9_commands_53 : decode cX9_commands 53 = .ok (.iconst 0, 1) := by decide +kernel
theorem dX9_commands_54 : decode cX9_commands 54 = .ok (.istore_n 2, 1) := by decide +kernel
theorem dX9_commands_55 : decode cX9_commands 55 = .ok (.iload_n 2, 1) := by decide +kernel
theorem dX9_commands_56 : decode cX9_commands 56 = .ok (.aload_n 0, 1) := by decide +kernel
theorem dX9_commands_57 : decode cX9_commands 57 = .ok (.getfield 57, 3) := by decide +kernel
theorem dX9_commands_60 : decode cX9_commands 60 = .ok (.getfield 230, 3) := by decide +kernel
theorem dX9_commands_63 : decode cX9_commands 63 = .ok (.if_icmp .ge 49, 3) := by decide +kernel
theorem dX9_commands_66 : decode cX9_commands 66 = .ok (.iload_n 1, 1) := by decide +kernel
theorem dX9_commands_67 : decode cX9_commands 67 = .ok (.iconst (-1), 1) := by decide +kernel
theorem dX9_commands_68 : decode cX9_commands 68 = .ok (.if_icmp .eq 44, 3) := by decide +kernel
theorem dX9_commands_71 : decode cX9_commands 71 = .ok (.aload_n 0, 1) := by decide +kernel
theorem dX9_commands_72 : decode cX9_commands 72 = .ok (.getfield 57, 3) := by decide +kernel
theorem dX9_commands_75 : decode cX9_commands 75 = .ok (.invokevirtual 233, 3) := by decide +kernel
theorem dX9_commands_78 : decode cX9_commands 78 = .ok (.pop, 1) := by decide +kernel
theorem dX9_commands_79 : decode cX9_commands 79 = .ok (.aload_n 0, 1) := by decide +kernel
theorem dX9_commands_80 : decode cX9_commands 80 = .ok (.getfield 57, 3) := by decide +kernel
theorem dX9_commands_83 : decode cX9_commands 83 = .ok (.invokevirtual 236, 3) := by decide +kernel
theorem dX9_commands_86 : decode cX9_commands 86 = .ok (.aload_n 0, 1) := by decide +kernel
theorem dX9_commands_87 : decode cX9_commands 87 = .ok (.getfield 32, 3) := by decide +kernel
theorem dX9_commands_90 : decode cX9_commands 90 = .ok (.iload_n 2, 1) := by decide +kernel
theorem dX9_commands_91 : decode cX9_commands 91 = .ok (.putfield 239, 3) := by decide +kernel
theorem dX9_commands_94 : decode cX9_commands 94 = .ok (.aload_n 0, 1) := by decide +kernel
theorem dX9_commands_95 : decode cX9_commands 95 = .ok (.getfield 41, 3) := by decide +kernel
theorem dX9_commands_98 : decode cX9_commands 98 = .ok (.aload_n 0, 1) := by decide +kernel
theorem dX9_commands_99 : decode cX9_commands 99 = .ok (.getfield 57, 3) := by decide +kernel
theorem dX9_commands_102 : decode cX9_commands 102 = .ok (.invokevirtual 242, 3) := by decide +kernel
theorem dX9_commands_105 : decode cX9_commands 105 = .ok (.istore_n 1, 1) := by decide +kernel
theorem dX9_commands_106 : decode cX9_commands 106 = .ok (.iinc 2 1, 3) := by decide +kernel
theorem dX9_commands_109 : decode cX9_commands 109 = .ok (.goto (-54), 3) := by decide +kernel
theorem dX9_commands_112 : decode cX9_commands 112 = .ok (.aload_n 0, 1) := by decide +kernel
theorem dX9_commands_113 : decode cX9_commands 113 = .ok (.getfield 32, 3) := by decide +kernel
theorem dX9_commands_116 : decode cX9_commands 116 = .ok (.iconst 0, 1) := by decide +kernel
theorem dX9_commands_117 : decode cX9_commands 117 = .ok (.putfield 239, 3) := by decide +kernel
theorem dX9_commands_120 : decode cX9_commands 120 = .ok (.aload_n 0, 1) := by decide +kernel
theorem dX9_commands_121 : decode cX9_commands 121 = .ok (.getfield 57, 3) := by decide +kernel
theorem dX9_commands_124 : decode cX9_commands 124 = .ok (.invokevirtual 224, 3) := by decide +kernel
theorem dX9_commands_127 : decode cX9_commands 127 = .ok (.iload_n 1, 1) := by decide +kernel
theorem dX9_commands_128 : decode cX9_commands 128 = .ok (.iconst (-1), 1) := by decide +kernel
theorem dX9_commands_129 : decode cX9_commands 129 = .ok (.if_icmp .ne 22, 3) := by decide +kernel
theorem dX9_commands_132 : decode cX9_commands 132 = .ok (.aload_n 0, 1) := by decide +kernel
theorem dX9_commands_133 : decode cX9_commands 133 = .ok (.getfield 12, 3) := by decide +kernel
theorem dX9_commands_136 : decode cX9_commands 136 = .ok (.aload_n 0, 1) := by decide +kernel
theorem dX9_commands_137 : decode cX9_commands 137 = .ok (.getfield 16, 3) := by decide +kernel
theorem dX9_commands_140 : decode cX9_commands 140 = .ok (.invokevirtual 68, 3) := by decide +kernel
theorem dX9_commands_143 : decode cX9_commands 143 = .ok (.new 246, 3) := by decide +kernel
theorem dX9_commands_146 : decode cX9_commands 146 = .ok (.dup, 1) := by decide +kernel
theorem dX9_commands_147 : decode cX9_commands 147 = .ok (.invokespecial 248, 3) := by decide +kernel
theorem dX9_commands_150 : decode cX9_commands 150 = .ok (.athrow, 1) := by decide +kernel
theorem dX9_commands_151 : decode cX9_commands 151 = .ok (.aload_n 0, 1) := by decide +kernel
theorem dX9_commands_152 : decode cX9_commands 152 = .ok (.getfield 25, 3) := by decide +kernel
theorem dX9_commands_155 : decode cX9_commands 155 = .ok (.aload_n 0, 1) := by decide +kernel
theorem dX9_commands_156 : decode cX9_commands 156 = .ok (.getfield 16, 3) := by decide +kernel
theorem dX9_commands_159 : decode cX9_commands 159 = .ok (.invokevirtual 249, 3) := by decide +kernel
theorem dX9_commands_162 : decode cX9_commands 162 = .ok (.aload_n 0, 1) := by decide +kernel
theorem dX9_commands_163 : decode cX9_commands 163 = .ok (.getfield 57, 3) := by decide +kernel
theorem dX9_commands_166 : decode cX9_commands 166 = .ok (.getfield 230, 3) := by decide +kernel
theorem dX9_commands_169 : decode cX9_commands 169 = .ok (.ireturn, 1) := by decide +kernel
theorem dX9_faultPosition_0 : decode cX9_faultPosition 0 = .ok (.aload_n 0, 1) := by decide +kernel
theorem dX9_faultPosition_1 : decode cX9_faultPosition 1 = .ok (.getfield 57, 3) := by decide +kernel
theorem dX9_faultPosition_4 : decode cX9_faultPosition 4 = .ok (.getfield 221, 3) := by decide +kernel
theorem dX9_faultPosition_7 : decode cX9_faultPosition 7 = .ok (.ireturn, 1) := by decide +kernel
theorem dX9_reason_0 : decode cX9_reason 0 = .ok (.iload_n 1, 1) := by decide +kernel
theorem dX9_reason_1 : decode cX9_reason 1 = .ok (.ifCond .lt 8, 3) := by decide +kernel
theorem dX9_reason_4 : decode cX9_reason 4 = .ok (.iload_n 1, 1) := by decide +kernel
theorem dX9_reason_5 : decode cX9_reason 5 = .ok (.iconst 3, 1) := by decide +kernel
theorem dX9_reason_6 : decode cX9_reason 6 = .ok (.if_icmp .lt 11, 3) := by decide +kernel
theorem dX9_reason_9 : decode cX9_reason 9 = .ok (.new 117, 3) := by decide +kernel
theorem dX9_reason_12 : decode cX9_reason 12 = .ok (.dup, 1) := by decide +kernel
theorem dX9_reason_13 : decode cX9_reason 13 = .ok (.invokespecial 119, 3) := by decide +kernel
theorem dX9_reason_16 : decode cX9_reason 16 = .ok (.athrow, 1) := by decide +kernel
theorem dX9_reason_17 : decode cX9_reason 17 = .ok (.aload_n 0, 1) := by decide +kernel
theorem dX9_reason_18 : decode cX9_reason 18 = .ok (.getfield 32, 3) := by decide +kernel
theorem dX9_reason_21 : decode cX9_reason 21 = .ok (.getfield 252, 3) := by decide +kernel
theorem dX9_reason_24 : decode cX9_reason 24 = .ok (.ifCond .ne 11, 3) := by decide +kernel
theorem dX9_reason_27 : decode cX9_reason 27 = .ok (.new 171, 3) := by decide +kernel
theorem dX9_reason_30 : decode cX9_reason 30 = .ok (.dup, 1) := by decide +kernel
theorem dX9_reason_31 : decode cX9_reason 31 = .ok (.invokespecial 173, 3) := by decide +kernel
theorem dX9_reason_34 : decode cX9_reason 34 = .ok (.athrow, 1) := by decide +kernel
theorem dX9_reason_35 : decode cX9_reason 35 = .ok (.aload_n 0, 1) := by decide +kernel
end
section
theorem dX9_reason_36 : decode cX9_reason 36 = .ok (.getfield 32, 3) := by decide +kernel
theorem dX9_reason_39 : decode cX9_reason 39 = .ok (.iload_n 1, 1) := by decide +kernel
theorem dX9_reason_40 : decode cX9_reason 40 = .ok (.invokevirtual 256, 3) := by decide +kernel
theorem dX9_reason_43 : decode cX9_reason 43 = .ok (.ireturn, 1) := by decide +kernel
theorem dX9_rack_0 : decode cX9_rack 0 = .ok (.aload_n 0, 1) := by decide +kernel
theorem dX9_rack_1 : decode cX9_rack 1 = .ok (.iload_n 1, 1) := by decide +kernel
theorem dX9_rack_2 : decode cX9_rack 2 = .ok (.invokevirtual 159, 3) := by decide +kernel
theorem dX9_rack_5 : decode cX9_rack 5 = .ok (.aload_n 0, 1) := by decide +kernel
theorem dX9_rack_6 : decode cX9_rack 6 = .ok (.getfield 64, 3) := by decide +kernel
theorem dX9_rack_9 : decode cX9_rack 9 = .ok (.invokevirtual 257, 3) := by decide +kernel
theorem dX9_rack_12 : decode cX9_rack 12 = .ok (.iconst 0, 1) := by decide +kernel
theorem dX9_rack_13 : decode cX9_rack 13 = .ok (.istore_n 2, 1) := by decide +kernel
theorem dX9_rack_14 : decode cX9_rack 14 = .ok (.iload_n 2, 1) := by decide +kernel
theorem dX9_rack_15 : decode cX9_rack 15 = .ok (.bipush 10, 2) := by decide +kernel
theorem dX9_rack_17 : decode cX9_rack 17 = .ok (.if_icmp .ge 25, 3) := by decide +kernel
theorem dX9_rack_20 : decode cX9_rack 20 = .ok (.aload_n 0, 1) := by decide +kernel
theorem dX9_rack_21 : decode cX9_rack 21 = .ok (.getfield 64, 3) := by decide +kernel
theorem dX9_rack_24 : decode cX9_rack 24 = .ok (.aload_n 0, 1) := by decide +kernel
theorem dX9_rack_25 : decode cX9_rack 25 = .ok (.getfield 12, 3) := by decide +kernel
theorem dX9_rack_28 : decode cX9_rack 28 = .ok (.iload_n 1, 1) := by decide +kernel
theorem dX9_rack_29 : decode cX9_rack 29 = .ok (.iload_n 2, 1) := by decide +kernel
theorem dX9_rack_30 : decode cX9_rack 30 = .ok (.invokevirtual 258, 3) := by decide +kernel
theorem dX9_rack_33 : decode cX9_rack 33 = .ok (.invokevirtual 262, 3) := by decide +kernel
theorem dX9_rack_36 : decode cX9_rack 36 = .ok (.iinc 2 1, 3) := by decide +kernel
theorem dX9_rack_39 : decode cX9_rack 39 = .ok (.goto (-25), 3) := by decide +kernel
theorem dX9_rack_42 : decode cX9_rack 42 = .ok (.aload_n 0, 1) := by decide +kernel
theorem dX9_rack_43 : decode cX9_rack 43 = .ok (.getfield 64, 3) := by decide +kernel
theorem dX9_rack_46 : decode cX9_rack 46 = .ok (.getfield 263, 3) := by decide +kernel
theorem dX9_rack_49 : decode cX9_rack 49 = .ok (.ireturn, 1) := by decide +kernel
theorem dX9_line_0 : decode cX9_line 0 = .ok (.aload_n 0, 1) := by decide +kernel
theorem dX9_line_1 : decode cX9_line 1 = .ok (.iload_n 1, 1) := by decide +kernel
theorem dX9_line_2 : decode cX9_line 2 = .ok (.invokevirtual 113, 3) := by decide +kernel
theorem dX9_line_5 : decode cX9_line 5 = .ok (.aload_n 0, 1) := by decide +kernel
theorem dX9_line_6 : decode cX9_line 6 = .ok (.getfield 12, 3) := by decide +kernel
theorem dX9_line_9 : decode cX9_line 9 = .ok (.iload_n 1, 1) := by decide +kernel
theorem dX9_line_10 : decode cX9_line 10 = .ok (.invokevirtual 120, 3) := by decide +kernel
theorem dX9_line_13 : decode cX9_line 13 = .ok (.astore_n 2, 1) := by decide +kernel
theorem dX9_line_14 : decode cX9_line 14 = .ok (.aload_n 0, 1) := by decide +kernel
theorem dX9_line_15 : decode cX9_line 15 = .ok (.getfield 64, 3) := by decide +kernel
theorem dX9_line_18 : decode cX9_line 18 = .ok (.invokevirtual 257, 3) := by decide +kernel
theorem dX9_line_21 : decode cX9_line 21 = .ok (.aload_n 0, 1) := by decide +kernel
theorem dX9_line_22 : decode cX9_line 22 = .ok (.getfield 64, 3) := by decide +kernel
theorem dX9_line_25 : decode cX9_line 25 = .ok (.aload_n 2, 1) := by decide +kernel
theorem dX9_line_26 : decode cX9_line 26 = .ok (.getfield 264, 3) := by decide +kernel
theorem dX9_line_29 : decode cX9_line 29 = .ok (.invokevirtual 267, 3) := by decide +kernel
theorem dX9_line_32 : decode cX9_line 32 = .ok (.aload_n 0, 1) := by decide +kernel
theorem dX9_line_33 : decode cX9_line 33 = .ok (.getfield 64, 3) := by decide +kernel
theorem dX9_line_36 : decode cX9_line 36 = .ok (.bipush 42, 2) := by decide +kernel
theorem dX9_line_38 : decode cX9_line 38 = .ok (.invokevirtual 262, 3) := by decide +kernel
theorem dX9_line_41 : decode cX9_line 41 = .ok (.aload_n 0, 1) := by decide +kernel
theorem dX9_line_42 : decode cX9_line 42 = .ok (.getfield 64, 3) := by decide +kernel
theorem dX9_line_45 : decode cX9_line 45 = .ok (.aload_n 2, 1) := by decide +kernel
theorem dX9_line_46 : decode cX9_line 46 = .ok (.getfield 270, 3) := by decide +kernel
theorem dX9_line_49 : decode cX9_line 49 = .ok (.invokevirtual 267, 3) := by decide +kernel
theorem dX9_line_52 : decode cX9_line 52 = .ok (.iconst 0, 1) := by decide +kernel
theorem dX9_line_53 : decode cX9_line 53 = .ok (.istore_n 3, 1) := by decide +kernel
theorem dX9_line_54 : decode cX9_line 54 = .ok (.iload_n 3, 1) := by decide +kernel
theorem dX9_line_55 : decode cX9_line 55 = .ok (.iconst 2, 1) := by decide +kernel
theorem dX9_line_56 : decode cX9_line 56 = .ok (.if_icmp .ge 34, 3) := by decide +kernel
theorem dX9_line_59 : decode cX9_line 59 = .ok (.aload_n 0, 1) := by decide +kernel
theorem dX9_line_60 : decode cX9_line 60 = .ok (.getfield 64, 3) := by decide +kernel
theorem dX9_line_63 : decode cX9_line 63 = .ok (.aload_n 2, 1) := by decide +kernel
theorem dX9_line_64 : decode cX9_line 64 = .ok (.iload_n 3, 1) := by decide +kernel
theorem dX9_line_65 : decode cX9_line 65 = .ok (.invokevirtual 129, 3) := by decide +kernel
theorem dX9_line_68 : decode cX9_line 68 = .ok (.aload_n 2, 1) := by decide +kernel
theorem dX9_line_69 : decode cX9_line 69 = .ok (.getfield 273, 3) := by decide +kernel
theorem dX9_line_72 : decode cX9_line 72 = .ok (.iload_n 3, 1) := by decide +kernel
theorem dX9_line_73 : decode cX9_line 73 = .ok (.if_icmp .ne 7, 3) := by decide +kernel
theorem dX9_line_76 : decode cX9_line 76 = .ok (.iconst 1, 1) := by decide +kernel
theorem dX9_line_77 : decode cX9_line 77 = .ok (.goto 4, 3) := by decide +kernel
theorem dX9_line_80 : decode cX9_line 80 = .ok (.iconst 0, 1) := by decide +kernel
theorem dX9_line_81 : decode cX9_line 81 = .ok (.invokevirtual 276, 3) := by decide +kernel
theorem dX9_line_84 : decode cX9_line 84 = .ok (.iinc 3 1, 3) := by decide +kernel
theorem dX9_line_87 : decode cX9_line 87 = .ok (.goto (-33), 3) := by decide +kernel
theorem dX9_line_90 : decode cX9_line 90 = .ok (.aload_n 0, 1) := by decide +kernel
theorem dX9_line_91 : decode cX9_line 91 = .ok (.getfield 64, 3) := by decide +kernel
theorem dX9_line_94 : decode cX9_line 94 = .ok (.getfield 263, 3) := by decide +kernel
theorem dX9_line_97 : decode cX9_line 97 = .ok (.ireturn, 1) := by decide +kernel
theorem dX9_character_0 : decode cX9_character 0 = .ok (.iload_n 1, 1) := by decide +kernel
theorem dX9_character_1 : decode cX9_character 1 = .ok (.ifCond .lt 14, 3) := by decide +kernel
theorem dX9_character_4 : decode cX9_character 4 = .ok (.iload_n 1, 1) := by decide +kernel
theorem dX9_character_5 : decode cX9_character 5 = .ok (.aload_n 0, 1) := by decide +kernel
theorem dX9_character_6 : decode cX9_character 6 = .ok (.getfield 64, 3) := by decide +kernel
theorem dX9_character_9 : decode cX9_character 9 = .ok (.getfield 263, 3) := by decide +kernel
theorem dX9_character_12 : decode cX9_character 12 = .ok (.if_icmp .lt 11, 3) := by decide +kernel
theorem dX9_character_15 : decode cX9_character 15 = .ok (.new 149, 3) := by decide +kernel
theorem dX9_character_18 : decode cX9_character 18 = .ok (.dup, 1) := by decide +kernel
theorem dX9_character_19 : decode cX9_character 19 = .ok (.invokespecial 151, 3) := by decide +kernel
theorem dX9_character_22 : decode cX9_character 22 = .ok (.athrow, 1) := by decide +kernel
theorem dX9_character_23 : decode cX9_character 23 = .ok (.aload_n 0, 1) := by decide +kernel
theorem dX9_character_24 : decode cX9_character 24 = .ok (.getfield 64, 3) := by decide +kernel
theorem dX9_character_27 : decode cX9_character 27 = .ok (.iload_n 1, 1) := by decide +kernel
theorem dX9_character_28 : decode cX9_character 28 = .ok (.invokevirtual 280, 3) := by decide +kernel
theorem dX9_character_31 : decode cX9_character 31 = .ok (.ireturn, 1) := by decide +kernel
theorem dX9_meanSmoke_0 : decode cX9_meanSmoke 0 = .ok (.aload_n 0, 1) := by decide +kernel
theorem dX9_meanSmoke_1 : decode cX9_meanSmoke 1 = .ok (.getfield 12, 3) := by decide +kernel
theorem dX9_meanSmoke_4 : decode cX9_meanSmoke 4 = .ok (.getfield 202, 3) := by decide +kernel
theorem dX9_meanSmoke_7 : decode cX9_meanSmoke 7 = .ok (.iconst 2, 1) := by decide +kernel
theorem dX9_meanSmoke_8 : decode cX9_meanSmoke 8 = .ok (.imul, 1) := by decide +kernel
theorem dX9_meanSmoke_9 : decode cX9_meanSmoke 9 = .ok (.istore_n 1, 1) := by decide +kernel
theorem dX9_meanSmoke_10 : decode cX9_meanSmoke 10 = .ok (.iload_n 1, 1) := by decide +kernel
theorem dX9_meanSmoke_11 : decode cX9_meanSmoke 11 = .ok (.ifCond .ne 11, 3) := by decide +kernel
theorem dX9_meanSmoke_14 : decode cX9_meanSmoke 14 = .ok (.new 284, 3) := by decide +kernel
theorem dX9_meanSmoke_17 : decode cX9_meanSmoke 17 = .ok (.dup, 1) := by decide +kernel
theorem dX9_meanSmoke_18 : decode cX9_meanSmoke 18 = .ok (.invokespecial 286, 3) := by decide +kernel
theorem dX9_meanSmoke_21 : decode cX9_meanSmoke 21 = .ok (.athrow, 1) := by decide +kernel
theorem dX9_meanSmoke_22 : decode cX9_meanSmoke 22 = .ok (.aload_n 0, 1) := by decide +kernel
theorem dX9_meanSmoke_23 : decode cX9_meanSmoke 23 = .ok (.getfield 12, 3) := by decide +kernel
theorem dX9_meanSmoke_26 : decode cX9_meanSmoke 26 = .ok (.invokevirtual 287, 3) := by decide +kernel
theorem dX9_meanSmoke_29 : decode cX9_meanSmoke 29 = .ok (.i2f, 1) := by decide +kernel
theorem dX9_meanSmoke_30 : decode cX9_meanSmoke 30 = .ok (.iload_n 1, 1) := by decide +kernel
theorem dX9_meanSmoke_31 : decode cX9_meanSmoke 31 = .ok (.i2f, 1) := by decide +kernel
theorem dX9_meanSmoke_32 : decode cX9_meanSmoke 32 = .ok (.fdiv, 1) := by decide +kernel
theorem dX9_meanSmoke_33 : decode cX9_meanSmoke 33 = .ok (.invokestatic 290, 3) := by decide +kernel
theorem dX9_meanSmoke_36 : decode cX9_meanSmoke 36 = .ok (.ireturn, 1) := by decide +kernel
theorem dX9_burntShare_0 : decode cX9_burntShare 0 = .ok (.aload_n 0, 1) := by decide +kernel
theorem dX9_burntShare_1 : decode cX9_burntShare 1 = .ok (.getfield 12, 3) := by decide +kernel
theorem dX9_burntShare_4 : decode cX9_burntShare 4 = .ok (.getfield 202, 3) := by decide +kernel
theorem dX9_burntShare_7 : decode cX9_burntShare 7 = .ok (.istore_n 1, 1) := by decide +kernel
theorem dX9_burntShare_8 : decode cX9_burntShare 8 = .ok (.iload_n 1, 1) := by decide +kernel
theorem dX9_burntShare_9 : decode cX9_burntShare 9 = .ok (.ifCond .ne 11, 3) := by decide +kernel
theorem dX9_burntShare_12 : decode cX9_burntShare 12 = .ok (.new 284, 3) := by decide +kernel
theorem dX9_burntShare_15 : decode cX9_burntShare 15 = .ok (.dup, 1) := by decide +kernel
theorem dX9_burntShare_16 : decode cX9_burntShare 16 = .ok (.invokespecial 286, 3) := by decide +kernel
theorem dX9_burntShare_19 : decode cX9_burntShare 19 = .ok (.athrow, 1) := by decide +kernel
theorem dX9_burntShare_20 : decode cX9_burntShare 20 = .ok (.aload_n 0, 1) := by decide +kernel
theorem dX9_burntShare_21 : decode cX9_burntShare 21 = .ok (.getfield 12, 3) := by decide +kernel
theorem dX9_burntShare_24 : decode cX9_burntShare 24 = .ok (.invokevirtual 294, 3) := by decide +kernel
theorem dX9_burntShare_27 : decode cX9_burntShare 27 = .ok (.i2d, 1) := by decide +kernel
theorem dX9_burntShare_28 : decode cX9_burntShare 28 = .ok (.iload_n 1, 1) := by decide +kernel
theorem dX9_burntShare_29 : decode cX9_burntShare 29 = .ok (.i2d, 1) := by decide +kernel
theorem dX9_burntShare_30 : decode cX9_burntShare 30 = .ok (.ddiv, 1) := by decide +kernel
theorem dX9_burntShare_31 : decode cX9_burntShare 31 = .ok (.dreturn, 1) := by decide +kernel
theorem dX9_account_0 : decode cX9_account 0 = .ok (.iload_n 1, 1) := by decide +kernel
theorem dX9_account_1 : decode cX9_account 1 = .ok (.tableswitch 161 0 11 #[63, 71, 80, 89, 97, 105, 113, 121, 129, 137, 145, 153], 63) := by decide +kernel
theorem dX9_account_64 : decode cX9_account 64 = .ok (.aload_n 0, 1) := by decide +kernel
theorem dX9_account_65 : decode cX9_account 65 = .ok (.getfield 12, 3) := by decide +kernel
theorem dX9_account_68 : decode cX9_account 68 = .ok (.getfield 202, 3) := by decide +kernel
theorem dX9_account_71 : decode cX9_account 71 = .ok (.ireturn, 1) := by decide +kernel
theorem dX9_account_72 : decode cX9_account 72 = .ok (.aload_n 0, 1) := by decide +kernel
theorem dX9_account_73 : decode cX9_account 73 = .ok (.getfield 12, 3) := by decide +kernel
theorem dX9_account_76 : decode cX9_account 76 = .ok (.iconst 1, 1) := by decide +kernel
theorem dX9_account_77 : decode cX9_account 77 = .ok (.invokevirtual 297, 3) := by decide +kernel
theorem dX9_account_80 : decode cX9_account 80 = .ok (.ireturn, 1) := by decide +kernel
theorem dX9_account_81 : decode cX9_account 81 = .ok (.aload_n 0, 1) := by decide +kernel
theorem dX9_account_82 : decode cX9_account 82 = .ok (.getfield 12, 3) := by decide +kernel
theorem dX9_account_85 : decode cX9_account 85 = .ok (.iconst 2, 1) := by decide +kernel
theorem dX9_account_86 : decode cX9_account 86 = .ok (.invokevirtual 297, 3) := by decide +kernel
theorem dX9_account_89 : decode cX9_account 89 = .ok (.ireturn, 1) := by decide +kernel
theorem dX9_account_90 : decode cX9_account 90 = .ok (.aload_n 0, 1) := by decide +kernel
theorem dX9_account_91 : decode cX9_account 91 = .ok (.getfield 12, 3) := by decide +kernel
theorem dX9_account_94 : decode cX9_account 94 = .ok (.getfield 162, 3) := by decide +kernel
theorem dX9_account_97 : decode cX9_account 97 = .ok (.ireturn, 1) := by decide +kernel
theorem dX9_account_98 : decode cX9_account 98 = .ok (.aload_n 0, 1) := by decide +kernel
theorem dX9_account_99 : decode cX9_account 99 = .ok (.getfield 12, 3) := by decide +kernel
theorem dX9_account_102 : decode cX9_account 102 = .ok (.getfield 300, 3) := by decide +kernel
theorem dX9_account_105 : decode cX9_account 105 = .ok (.ireturn, 1) := by decide +kernel
theorem dX9_account_106 : decode cX9_account 106 = .ok (.aload_n 0, 1) := by decide +kernel
theorem dX9_account_107 : decode cX9_account 107 = .ok (.getfield 12, 3) := by decide +kernel
theorem dX9_account_110 : decode cX9_account 110 = .ok (.getfield 303, 3) := by decide +kernel
theorem dX9_account_113 : decode cX9_account 113 = .ok (.ireturn, 1) := by decide +kernel
theorem dX9_account_114 : decode cX9_account 114 = .ok (.aload_n 0, 1) := by decide +kernel
theorem dX9_account_115 : decode cX9_account 115 = .ok (.getfield 12, 3) := by decide +kernel
theorem dX9_account_118 : decode cX9_account 118 = .ok (.getfield 306, 3) := by decide +kernel
theorem dX9_account_121 : decode cX9_account 121 = .ok (.ireturn, 1) := by decide +kernel
theorem dX9_account_122 : decode cX9_account 122 = .ok (.aload_n 0, 1) := by decide +kernel
theorem dX9_account_123 : decode cX9_account 123 = .ok (.getfield 12, 3) := by decide +kernel
theorem dX9_account_126 : decode cX9_account 126 = .ok (.getfield 309, 3) := by decide +kernel
theorem dX9_account_129 : decode cX9_account 129 = .ok (.ireturn, 1) := by decide +kernel
theorem dX9_account_130 : decode cX9_account 130 = .ok (.aload_n 0, 1) := by decide +kernel
theorem dX9_account_131 : decode cX9_account 131 = .ok (.getfield 12, 3) := by decide +kernel
theorem dX9_account_134 : decode cX9_account 134 = .ok (.getfield 312, 3) := by decide +kernel
theorem dX9_account_137 : decode cX9_account 137 = .ok (.ireturn, 1) := by decide +kernel
theorem dX9_account_138 : decode cX9_account 138 = .ok (.aload_n 0, 1) := by decide +kernel
theorem dX9_account_139 : decode cX9_account 139 = .ok (.getfield 12, 3) := by decide +kernel
theorem dX9_account_142 : decode cX9_account 142 = .ok (.getfield 315, 3) := by decide +kernel
theorem dX9_account_145 : decode cX9_account 145 = .ok (.ireturn, 1) := by decide +kernel
theorem dX9_account_146 : decode cX9_account 146 = .ok (.aload_n 0, 1) := by decide +kernel
theorem dX9_account_147 : decode cX9_account 147 = .ok (.getfield 25, 3) := by decide +kernel
theorem dX9_account_150 : decode cX9_account 150 = .ok (.getfield 318, 3) := by decide +kernel
theorem dX9_account_153 : decode cX9_account 153 = .ok (.ireturn, 1) := by decide +kernel
theorem dX9_account_154 : decode cX9_account 154 = .ok (.aload_n 0, 1) := by decide +kernel
theorem dX9_account_155 : decode cX9_account 155 = .ok (.getfield 57, 3) := by decide +kernel
theorem dX9_account_158 : decode cX9_account 158 = .ok (.getfield 208, 3) := by decide +kernel
theorem dX9_account_161 : decode cX9_account 161 = .ok (.ireturn, 1) := by decide +kernel
theorem dX9_account_162 : decode cX9_account 162 = .ok (.new 117, 3) := by decide +kernel
theorem dX9_account_165 : decode cX9_account 165 = .ok (.dup, 1) := by decide +kernel
theorem dX9_account_166 : decode cX9_account 166 = .ok (.invokespecial 119, 3) := by decide +kernel
theorem dX9_account_169 : decode cX9_account 169 = .ok (.athrow, 1) := by decide +kernel
theorem dX9_undo_0 : decode cX9_undo 0 = .ok (.aload_n 0, 1) := by decide +kernel
theorem dX9_undo_1 : decode cX9_undo 1 = .ok (.getfield 25, 3) := by decide +kernel
theorem dX9_undo_4 : decode cX9_undo 4 = .ok (.getfield 318, 3) := by decide +kernel
theorem dX9_undo_7 : decode cX9_undo 7 = .ok (.ifCond .ne 11, 3) := by decide +kernel
theorem dX9_undo_10 : decode cX9_undo 10 = .ok (.new 211, 3) := by decide +kernel
theorem dX9_undo_13 : decode cX9_undo 13 = .ok (.dup, 1) := by decide +kernel
theorem dX9_undo_14 : decode cX9_undo 14 = .ok (.invokespecial 213, 3) := by decide +kernel
theorem dX9_undo_17 : decode cX9_undo 17 = .ok (.athrow, 1) := by decide +kernel
theorem dX9_undo_18 : decode cX9_undo 18 = .ok (.aload_n 0, 1) := by decide +kernel
theorem dX9_undo_19 : decode cX9_undo 19 = .ok (.getfield 25, 3) := by decide +kernel
theorem dX9_undo_22 : decode cX9_undo 22 = .ok (.aload_n 0, 1) := by decide +kernel
theorem dX9_undo_23 : decode cX9_undo 23 = .ok (.getfield 12, 3) := by decide +kernel
theorem dX9_undo_26 : decode cX9_undo 26 = .ok (.invokevirtual 319, 3) := by decide +kernel
theorem dX9_undo_29 : decode cX9_undo 29 = .ok (.aload_n 0, 1) := by decide +kernel
theorem dX9_undo_30 : decode cX9_undo 30 = .ok (.getfield 25, 3) := by decide +kernel
theorem dX9_undo_33 : decode cX9_undo 33 = .ok (.getfield 318, 3) := by decide +kernel
theorem dX9_undo_36 : decode cX9_undo 36 = .ok (.ireturn, 1) := by decide +kernel
theorem dX9_save_0 : decode cX9_save 0 = .ok (.aload_n 0, 1) := by decide +kernel
theorem dX9_save_1 : decode cX9_save 1 = .ok (.getfield 19, 3) := by decide +kernel
theorem dX9_save_4 : decode cX9_save 4 = .ok (.aload_n 0, 1) := by decide +kernel
theorem dX9_save_5 : decode cX9_save 5 = .ok (.getfield 12, 3) := by decide +kernel
theorem dX9_save_8 : decode cX9_save 8 = .ok (.invokevirtual 68, 3) := by decide +kernel
theorem dX9_save_11 : decode cX9_save 11 = .ok (.aload_n 0, 1) := by decide +kernel
theorem dX9_save_12 : decode cX9_save 12 = .ok (.iconst 1, 1) := by decide +kernel
theorem dX9_save_13 : decode cX9_save 13 = .ok (.putfield 322, 3) := by decide +kernel
theorem dX9_save_16 : decode cX9_save 16 = .ok (.aload_n 0, 1) := by decide +kernel
theorem dX9_save_17 : decode cX9_save 17 = .ok (.getfield 12, 3) := by decide +kernel
theorem dX9_save_20 : decode cX9_save 20 = .ok (.getfield 202, 3) := by decide +kernel
theorem dX9_save_23 : decode cX9_save 23 = .ok (.ireturn, 1) := by decide +kernel
theorem dX9_restore_0 : decode cX9_restore 0 = .ok (.aload_n 0, 1) := by decide +kernel
theorem dX9_restore_1 : decode cX9_restore 1 = .ok (.getfield 322, 3) := by decide +kernel
theorem dX9_restore_4 : decode cX9_restore 4 = .ok (.ifCond .ne 11, 3) := by decide +kernel
theorem dX9_restore_7 : decode cX9_restore 7 = .ok (.new 211, 3) := by decide +kernel
theorem dX9_restore_10 : decode cX9_restore 10 = .ok (.dup, 1) := by decide +kernel
theorem dX9_restore_11 : decode cX9_restore 11 = .ok (.invokespecial 213, 3) := by decide +kernel
theorem dX9_restore_14 : decode cX9_restore 14 = .ok (.athrow, 1) := by decide +kernel
theorem dX9_restore_15 : decode cX9_restore 15 = .ok (.aload_n 0, 1) := by decide +kernel
theorem dX9_restore_16 : decode cX9_restore 16 = .ok (.getfield 12, 3) := by decide +kernel
theorem dX9_restore_19 : decode cX9_restore 19 = .ok (.aload_n 0, 1) := by decide +kernel
theorem dX9_restore_20 : decode cX9_restore 20 = .ok (.getfield 19, 3) := by decide +kernel
theorem dX9_restore_23 : decode cX9_restore 23 = .ok (.invokevirtual 68, 3) := by decide +kernel
theorem dX9_restore_26 : decode cX9_restore 26 = .ok (.aload_n 0, 1) := by decide +kernel
theorem dX9_restore_27 : decode cX9_restore 27 = .ok (.getfield 25, 3) := by decide +kernel
theorem dX9_restore_30 : decode cX9_restore 30 = .ok (.invokevirtual 325, 3) := by decide +kernel
theorem dX9_restore_33 : decode cX9_restore 33 = .ok (.aload_n 0, 1) := by decide +kernel
theorem dX9_restore_34 : decode cX9_restore 34 = .ok (.getfield 12, 3) := by decide +kernel
theorem dX9_restore_37 : decode cX9_restore 37 = .ok (.getfield 202, 3) := by decide +kernel
theorem dX9_restore_40 : decode cX9_restore 40 = .ok (.ireturn, 1) := by decide +kernel
theorem dX9_settled_0 : decode cX9_settled 0 = .ok (.iload_n 1, 1) := by decide +kernel
theorem dX9_settled_1 : decode cX9_settled 1 = .ok (.iconst (-1), 1) := by decide +kernel
theorem dX9_settled_2 : decode cX9_settled 2 = .ok (.if_icmp .ne 11, 3) := by decide +kernel
theorem dX9_settled_5 : decode cX9_settled 5 = .ok (.new 246, 3) := by decide +kernel
theorem dX9_settled_8 : decode cX9_settled 8 = .ok (.dup, 1) := by decide +kernel
theorem dX9_settled_9 : decode cX9_settled 9 = .ok (.invokespecial 248, 3) := by decide +kernel
theorem dX9_settled_12 : decode cX9_settled 12 = .ok (.athrow, 1) := by decide +kernel
theorem dX9_settled_13 : decode cX9_settled 13 = .ok (.aload_n 0, 1) := by decide +kernel
theorem dX9_settled_14 : decode cX9_settled 14 = .ok (.getfield 25, 3) := by decide +kernel
theorem dX9_settled_17 : decode cX9_settled 17 = .ok (.aload_n 0, 1) := by decide +kernel
theorem dX9_settled_18 : decode cX9_settled 18 = .ok (.getfield 16, 3) := by decide +kernel
theorem dX9_settled_21 : decode cX9_settled 21 = .ok (.invokevirtual 249, 3) := by decide +kernel
theorem dX9_settled_24 : decode cX9_settled 24 = .ok (.iload_n 1, 1) := by decide +kernel
theorem dX9_settled_25 : decode cX9_settled 25 = .ok (.ireturn, 1) := by decide +kernel
theorem dX9_needFish_0 : decode cX9_needFish 0 = .ok (.aload_n 0, 1) := by decide +kernel
theorem dX9_needFish_1 : decode cX9_needFish 1 = .ok (.getfield 12, 3) := by decide +kernel
theorem dX9_needFish_4 : decode cX9_needFish 4 = .ok (.iload_n 1, 1) := by decide +kernel
theorem dX9_needFish_5 : decode cX9_needFish 5 = .ok (.invokevirtual 328, 3) := by decide +kernel
theorem dX9_needFish_8 : decode cX9_needFish 8 = .ok (.ifCond .ne 11, 3) := by decide +kernel
theorem dX9_needFish_11 : decode cX9_needFish 11 = .ok (.new 149, 3) := by decide +kernel
theorem dX9_needFish_14 : decode cX9_needFish 14 = .ok (.dup, 1) := by decide +kernel
theorem dX9_needFish_15 : decode cX9_needFish 15 = .ok (.invokespecial 151, 3) := by decide +kernel
theorem dX9_needFish_18 : decode cX9_needFish 18 = .ok (.athrow, 1) := by decide +kernel
theorem dX9_needFish_19 : decode cX9_needFish 19 = .ok (.return_, 1) := by decide +kernel
theorem dX9_needRack_0 : decode cX9_needRack 0 = .ok (.iload_n 1, 1) := by decide +kernel
theorem dX9_needRack_1 : decode cX9_needRack 1 = .ok (.invokestatic 142, 3) := by decide +kernel
theorem dX9_needRack_4 : decode cX9_needRack 4 = .ok (.ifCond .ne 11, 3) := by decide +kernel
theorem dX9_needRack_7 : decode cX9_needRack 7 = .ok (.new 149, 3) := by decide +kernel
theorem dX9_needRack_10 : decode cX9_needRack 10 = .ok (.dup, 1) := by decide +kernel
theorem dX9_needRack_11 : decode cX9_needRack 11 = .ok (.invokespecial 151, 3) := by decide +kernel
theorem dX9_needRack_14 : decode cX9_needRack 14 = .ok (.athrow, 1) := by decide +kernel
theorem dX9_needRack_15 : decode cX9_needRack 15 = .ok (.return_, 1) := by decide +kernel
theorem dX9_needForecastHours_0 : decode cX9_needForecastHours 0 = .ok (.iload_n 1, 1) := by decide +kernel
theorem dX9_needForecastHours_1 : decode cX9_needForecastHours 1 = .ok (.ifCond .lt 9, 3) := by decide +kernel
theorem dX9_needForecastHours_4 : decode cX9_needForecastHours 4 = .ok (.iload_n 1, 1) := by decide +kernel
theorem dX9_needForecastHours_5 : decode cX9_needForecastHours 5 = .ok (.bipush 24, 2) := by decide +kernel
theorem dX9_needForecastHours_7 : decode cX9_needForecastHours 7 = .ok (.if_icmp .le 11, 3) := by decide +kernel
theorem dX9_needForecastHours_10 : decode cX9_needForecastHours 10 = .ok (.new 117, 3) := by decide +kernel
theorem dX9_needForecastHours_13 : decode cX9_needForecastHours 13 = .ok (.dup, 1) := by decide +kernel
theorem dX9_needForecastHours_14 : decode cX9_needForecastHours 14 = .ok (.invokespecial 119, 3) := by decide +kernel
theorem dX9_needForecastHours_17 : decode cX9_needForecastHours 17 = .ok (.athrow, 1) := by decide +kernel
theorem dX9_needForecastHours_18 : decode cX9_needForecastHours 18 = .ok (.return_, 1) := by decide +kernel
theorem dX9_found_0 : decode cX9_found 0 = .ok (.iload_n 1, 1) := by decide +kernel
theorem dX9_found_1 : decode cX9_found 1 = .ok (.ifCond .ge 11, 3) := by decide +kernel
theorem dX9_found_4 : decode cX9_found 4 = .ok (.new 171, 3) := by decide +kernel
theorem dX9_found_7 : decode cX9_found 7 = .ok (.dup, 1) := by decide +kernel
theorem dX9_found_8 : decode cX9_found 8 = .ok (.invokespecial 173, 3) := by decide +kernel
theorem dX9_found_11 : decode cX9_found 11 = .ok (.athrow, 1) := by decide +kernel
theorem dX9_found_12 : decode cX9_found 12 = .ok (.iload_n 1, 1) := by decide +kernel
theorem dX9_found_13 : decode cX9_found 13 = .ok (.ireturn, 1) := by decide +kernel
theorem dX9_isRack_0 : decode cX9_isRack 0 = .ok (.iload_n 0, 1) := by decide +kernel
theorem dX9_isRack_1 : decode cX9_isRack 1 = .ok (.ifCond .lt 12, 3) := by decide +kernel
theorem dX9_isRack_4 : decode cX9_isRack 4 = .ok (.iload_n 0, 1) := by decide +kernel
theorem dX9_isRack_5 : decode cX9_isRack 5 = .ok (.iconst 4, 1) := by decide +kernel
theorem dX9_isRack_6 : decode cX9_isRack 6 = .ok (.if_icmp .ge 7, 3) := by decide +kernel
theorem dX9_isRack_9 : decode cX9_isRack 9 = .ok (.iconst 1, 1) := by decide +kernel
theorem dX9_isRack_10 : decode cX9_isRack 10 = .ok (.goto 4, 3) := by decide +kernel
theorem dX9_isRack_13 : decode cX9_isRack 13 = .ok (.iconst 0, 1) := by decide +kernel
theorem dX9_isRack_14 : decode cX9_isRack 14 = .ok (.ireturn, 1) := by decide +kernel
theorem dX9_isHook_0 : decode cX9_isHook 0 = .ok (.iload_n 0, 1) := by decide +kernel
theorem dX9_isHook_1 : decode cX9_isHook 1 = .ok (.ifCond .lt 13, 3) := by decide +kernel
theorem dX9_isHook_4 : decode cX9_isHook 4 = .ok (.iload_n 0, 1) := by decide +kernel
theorem dX9_isHook_5 : decode cX9_isHook 5 = .ok (.bipush 10, 2) := by decide +kernel
theorem dX9_isHook_7 : decode cX9_isHook 7 = .ok (.if_icmp .ge 7, 3) := by decide +kernel
theorem dX9_isHook_10 : decode cX9_isHook 10 = .ok (.iconst 1, 1) := by decide +kernel
theorem dX9_isHook_11 : decode cX9_isHook 11 = .ok (.goto 4, 3) := by decide +kernel
theorem dX9_isHook_14 : decode cX9_isHook 14 = .ok (.iconst 0, 1) := by decide +kernel
theorem dX9_isHook_15 : decode cX9_isHook 15 = .ok (.ireturn, 1) := by decide +kernel
theorem dX9_heatBy_0 : decode cX9_heatBy 0 = .ok (.iconst 0, 1) := by decide +kernel
theorem dX9_heatBy_1 : decode cX9_heatBy 1 = .ok (.iload_n 0, 1) := by decide +kernel
theorem dX9_heatBy_2 : decode cX9_heatBy 2 = .ok (.iload_n 1, 1) := by decide +kernel
theorem dX9_heatBy_3 : decode cX9_heatBy 3 = .ok (.isub, 1) := by decide +kernel
theorem dX9_heatBy_4 : decode cX9_heatBy 4 = .ok (.invokestatic 331, 3) := by decide +kernel
theorem dX9_heatBy_7 : decode cX9_heatBy 7 = .ok (.ireturn, 1) := by decide +kernel
theorem dX9_bitsOf_0 : decode cX9_bitsOf 0 = .ok (.fload_n 0, 1) := by decide +kernel
theorem dX9_bitsOf_1 : decode cX9_bitsOf 1 = .ok (.fconst 0, 1) := by decide +kernel
theorem dX9_bitsOf_2 : decode cX9_bitsOf 2 = .ok (.fcmp .g, 1) := by decide +kernel
theorem dX9_bitsOf_3 : decode cX9_bitsOf 3 = .ok (.ifCond .gt 5, 3) := by decide +kernel
theorem dX9_bitsOf_6 : decode cX9_bitsOf 6 = .ok (.iconst 0, 1) := by decide +kernel
theorem dX9_bitsOf_7 : decode cX9_bitsOf 7 = .ok (.ireturn, 1) := by decide +kernel
theorem dX9_bitsOf_8 : decode cX9_bitsOf 8 = .ok (.fload_n 0, 1) := by decide +kernel
theorem dX9_bitsOf_9 : decode cX9_bitsOf 9 = .ok (.fstore_n 1, 1) := by decide +kernel
theorem dX9_bitsOf_10 : decode cX9_bitsOf 10 = .ok (.bipush 127, 2) := by decide +kernel
theorem dX9_bitsOf_12 : decode cX9_bitsOf 12 = .ok (.istore_n 2, 1) := by decide +kernel
theorem dX9_bitsOf_13 : decode cX9_bitsOf 13 = .ok (.iconst 0, 1) := by decide +kernel
theorem dX9_bitsOf_14 : decode cX9_bitsOf 14 = .ok (.istore_n 3, 1) := by decide +kernel
theorem dX9_bitsOf_15 : decode cX9_bitsOf 15 = .ok (.iload_n 3, 1) := by decide +kernel
theorem dX9_bitsOf_16 : decode cX9_bitsOf 16 = .ok (.bipush 127, 2) := by decide +kernel
theorem dX9_bitsOf_18 : decode cX9_bitsOf 18 = .ok (.if_icmp .ge 22, 3) := by decide +kernel
theorem dX9_bitsOf_21 : decode cX9_bitsOf 21 = .ok (.fload_n 1, 1) := by decide +kernel
theorem dX9_bitsOf_22 : decode cX9_bitsOf 22 = .ok (.fconst 2, 1) := by decide +kernel
theorem dX9_bitsOf_23 : decode cX9_bitsOf 23 = .ok (.fcmp .l, 1) := by decide +kernel
theorem dX9_bitsOf_24 : decode cX9_bitsOf 24 = .ok (.ifCond .lt 16, 3) := by decide +kernel
theorem dX9_bitsOf_27 : decode cX9_bitsOf 27 = .ok (.fload_n 1, 1) := by decide +kernel
theorem dX9_bitsOf_28 : decode cX9_bitsOf 28 = .ok (.fconst 2, 1) := by decide +kernel
theorem dX9_bitsOf_29 : decode cX9_bitsOf 29 = .ok (.fdiv, 1) := by decide +kernel
theorem dX9_bitsOf_30 : decode cX9_bitsOf 30 = .ok (.fstore_n 1, 1) := by decide +kernel
theorem dX9_bitsOf_31 : decode cX9_bitsOf 31 = .ok (.iinc 2 1, 3) := by decide +kernel
theorem dX9_bitsOf_34 : decode cX9_bitsOf 34 = .ok (.iinc 3 1, 3) := by decide +kernel
theorem dX9_bitsOf_37 : decode cX9_bitsOf 37 = .ok (.goto (-22), 3) := by decide +kernel
theorem dX9_bitsOf_40 : decode cX9_bitsOf 40 = .ok (.iconst 0, 1) := by decide +kernel
theorem dX9_bitsOf_41 : decode cX9_bitsOf 41 = .ok (.istore_n 3, 1) := by decide +kernel
theorem dX9_bitsOf_42 : decode cX9_bitsOf 42 = .ok (.iload_n 3, 1) := by decide +kernel
theorem dX9_bitsOf_43 : decode cX9_bitsOf 43 = .ok (.bipush 126, 2) := by decide +kernel
theorem dX9_bitsOf_45 : decode cX9_bitsOf 45 = .ok (.if_icmp .ge 22, 3) := by decide +kernel
theorem dX9_bitsOf_48 : decode cX9_bitsOf 48 = .ok (.fload_n 1, 1) := by decide +kernel
theorem dX9_bitsOf_49 : decode cX9_bitsOf 49 = .ok (.fconst 1, 1) := by decide +kernel
theorem dX9_bitsOf_50 : decode cX9_bitsOf 50 = .ok (.fcmp .g, 1) := by decide +kernel
theorem dX9_bitsOf_51 : decode cX9_bitsOf 51 = .ok (.ifCond .ge 16, 3) := by decide +kernel
theorem dX9_bitsOf_54 : decode cX9_bitsOf 54 = .ok (.fload_n 1, 1) := by decide +kernel
theorem dX9_bitsOf_55 : decode cX9_bitsOf 55 = .ok (.fconst 2, 1) := by decide +kernel
theorem dX9_bitsOf_56 : decode cX9_bitsOf 56 = .ok (.fmul, 1) := by decide +kernel
theorem dX9_bitsOf_57 : decode cX9_bitsOf 57 = .ok (.fstore_n 1, 1) := by decide +kernel
theorem dX9_bitsOf_58 : decode cX9_bitsOf 58 = .ok (.iinc 2 (-1), 3) := by decide +kernel
theorem dX9_bitsOf_61 : decode cX9_bitsOf 61 = .ok (.iinc 3 1, 3) := by decide +kernel
theorem dX9_bitsOf_64 : decode cX9_bitsOf 64 = .ok (.goto (-22), 3) := by decide +kernel
theorem dX9_bitsOf_67 : decode cX9_bitsOf 67 = .ok (.iload_n 2, 1) := by decide +kernel
theorem dX9_bitsOf_68 : decode cX9_bitsOf 68 = .ok (.bipush 23, 2) := by decide +kernel
theorem dX9_bitsOf_70 : decode cX9_bitsOf 70 = .ok (.ishl, 1) := by decide +kernel
theorem dX9_bitsOf_71 : decode cX9_bitsOf 71 = .ok (.fload_n 1, 1) := by decide +kernel
theorem dX9_bitsOf_72 : decode cX9_bitsOf 72 = .ok (.fconst 1, 1) := by decide +kernel
theorem dX9_bitsOf_73 : decode cX9_bitsOf 73 = .ok (.fsub, 1) := by decide +kernel
theorem dX9_bitsOf_74 : decode cX9_bitsOf 74 = .ok (.ldc_w 336, 3) := by decide +kernel
theorem dX9_bitsOf_77 : decode cX9_bitsOf 77 = .ok (.fmul, 1) := by decide +kernel
theorem dX9_bitsOf_78 : decode cX9_bitsOf 78 = .ok (.f2i, 1) := by decide +kernel
theorem dX9_bitsOf_79 : decode cX9_bitsOf 79 = .ok (.iadd, 1) := by decide +kernel
theorem dX9_bitsOf_80 : decode cX9_bitsOf 80 = .ok (.ireturn, 1) := by decide +kernel
theorem dX10_init_0 : decode cX10_init 0 = .ok (.aload_n 0, 1) := by decide +kernel
theorem dX10_init_1 : decode cX10_init 1 = .ok (.invokespecial 1, 3) := by decide +kernel
theorem dX10_init_4 : decode cX10_init 4 = .ok (.aload_n 0, 1) := by decide +kernel
theorem dX10_init_5 : decode cX10_init 5 = .ok (.sipush 140, 3) := by decide +kernel
theorem dX10_init_8 : decode cX10_init 8 = .ok (.newarray .int, 2) := by decide +kernel
theorem dX10_init_10 : decode cX10_init 10 = .ok (.putfield 7, 3) := by decide +kernel
theorem dX10_init_13 : decode cX10_init 13 = .ok (.aload_n 0, 1) := by decide +kernel
theorem dX10_init_14 : decode cX10_init 14 = .ok (.sipush 1120, 3) := by decide +kernel
theorem dX10_init_17 : decode cX10_init 17 = .ok (.newarray .int, 2) := by decide +kernel
theorem dX10_init_19 : decode cX10_init 19 = .ok (.putfield 13, 3) := by decide +kernel
theorem dX10_init_22 : decode cX10_init 22 = .ok (.aload_n 0, 1) := by decide +kernel
theorem dX10_init_23 : decode cX10_init 23 = .ok (.sipush 140, 3) := by decide +kernel
theorem dX10_init_26 : decode cX10_init 26 = .ok (.newarray .int, 2) := by decide +kernel
theorem dX10_init_28 : decode cX10_init 28 = .ok (.putfield 16, 3) := by decide +kernel
theorem dX10_init_31 : decode cX10_init 31 = .ok (.aload_n 0, 1) := by decide +kernel
theorem dX10_init_32 : decode cX10_init 32 = .ok (.sipush 140, 3) := by decide +kernel
theorem dX10_init_35 : decode cX10_init 35 = .ok (.newarray .int, 2) := by decide +kernel
theorem dX10_init_37 : decode cX10_init 37 = .ok (.putfield 19, 3) := by decide +kernel
theorem dX10_init_40 : decode cX10_init 40 = .ok (.aload_n 0, 1) := by decide +kernel
theorem dX10_init_41 : decode cX10_init 41 = .ok (.sipush 140, 3) := by decide +kernel
theorem dX10_init_44 : decode cX10_init 44 = .ok (.newarray .int, 2) := by decide +kernel
theorem dX10_init_46 : decode cX10_init 46 = .ok (.putfield 22, 3) := by decide +kernel
theorem dX10_init_49 : decode cX10_init 49 = .ok (.aload_n 0, 1) := by decide +kernel
theorem dX10_init_50 : decode cX10_init 50 = .ok (.bipush 60, 2) := by decide +kernel
theorem dX10_init_52 : decode cX10_init 52 = .ok (.newarray .int, 2) := by decide +kernel
theorem dX10_init_54 : decode cX10_init 54 = .ok (.putfield 25, 3) := by decide +kernel
theorem dX10_init_57 : decode cX10_init 57 = .ok (.aload_n 0, 1) := by decide +kernel
theorem dX10_init_58 : decode cX10_init 58 = .ok (.iconst (-1), 1) := by decide +kernel
theorem dX10_init_59 : decode cX10_init 59 = .ok (.putfield 28, 3) := by decide +kernel
theorem dX10_init_62 : decode cX10_init 62 = .ok (.aload_n 0, 1) := by decide +kernel
theorem dX10_init_63 : decode cX10_init 63 = .ok (.bipush 30, 2) := by decide +kernel
theorem dX10_init_65 : decode cX10_init 65 = .ok (.newarray .char, 2) := by decide +kernel
theorem dX10_init_67 : decode cX10_init 67 = .ok (.putfield 32, 3) := by decide +kernel
theorem dX10_init_70 : decode cX10_init 70 = .ok (.aload_n 0, 1) := by decide +kernel
theorem dX10_init_71 : decode cX10_init 71 = .ok (.sipush 128, 3) := by decide +kernel
theorem dX10_init_74 : decode cX10_init 74 = .ok (.newarray .int, 2) := by decide +kernel
theorem dX10_init_76 : decode cX10_init 76 = .ok (.putfield 36, 3) := by decide +kernel
theorem dX10_init_79 : decode cX10_init 79 = .ok (.return_, 1) := by decide +kernel
theorem dX10_thrown_0 : decode cX10_thrown 0 = .ok (.aload_n 0, 1) := by decide +kernel
theorem dX10_thrown_1 : decode cX10_thrown 1 = .ok (.getfield 39, 3) := by decide +kernel
theorem dX10_thrown_4 : decode cX10_thrown 4 = .ok (.ireturn, 1) := by decide +kernel
theorem dX10_fails_0 : decode cX10_fails 0 = .ok (.aload_n 0, 1) := by decide +kernel
theorem dX10_fails_1 : decode cX10_fails 1 = .ok (.iload_n 1, 1) := by decide +kernel
theorem dX10_fails_2 : decode cX10_fails 2 = .ok (.putfield 39, 3) := by decide +kernel
theorem dX10_fails_5 : decode cX10_fails 5 = .ok (.iload_n 1, 1) := by decide +kernel
theorem dX10_fails_6 : decode cX10_fails 6 = .ok (.ifCond .le 7, 3) := by decide +kernel
theorem dX10_fails_9 : decode cX10_fails 9 = .ok (.iconst 1, 1) := by decide +kernel
theorem dX10_fails_10 : decode cX10_fails 10 = .ok (.goto 4, 3) := by decide +kernel
theorem dX10_fails_13 : decode cX10_fails 13 = .ok (.iconst 0, 1) := by decide +kernel
theorem dX10_fails_14 : decode cX10_fails 14 = .ok (.ireturn, 1) := by decide +kernel
theorem dX10_refuses_0 : decode cX10_refuses 0 = .ok (.aload_n 0, 1) := by decide +kernel
theorem dX10_refuses_1 : decode cX10_refuses 1 = .ok (.iconst 1, 1) := by decide +kernel
theorem dX10_refuses_2 : decode cX10_refuses 2 = .ok (.putfield 39, 3) := by decide +kernel
theorem dX10_refuses_5 : decode cX10_refuses 5 = .ok (.aload_n 0, 1) := by decide +kernel
theorem dX10_refuses_6 : decode cX10_refuses 6 = .ok (.iload_n 1, 1) := by decide +kernel
theorem dX10_refuses_7 : decode cX10_refuses 7 = .ok (.putfield 42, 3) := by decide +kernel
theorem dX10_refuses_10 : decode cX10_refuses 10 = .ok (.aload_n 0, 1) := by decide +kernel
theorem dX10_refuses_11 : decode cX10_refuses 11 = .ok (.iload_n 2, 1) := by decide +kernel
theorem dX10_refuses_12 : decode cX10_refuses 12 = .ok (.putfield 45, 3) := by decide +kernel
theorem dX10_refuses_15 : decode cX10_refuses 15 = .ok (.aload_n 0, 1) := by decide +kernel
theorem dX10_refuses_16 : decode cX10_refuses 16 = .ok (.aload_n 0, 1) := by decide +kernel
theorem dX10_refuses_17 : decode cX10_refuses 17 = .ok (.getfield 48, 3) := by decide +kernel
theorem dX10_refuses_20 : decode cX10_refuses 20 = .ok (.ifCond .eq 10, 3) := by decide +kernel
theorem dX10_refuses_23 : decode cX10_refuses 23 = .ok (.aload_n 0, 1) := by decide +kernel
theorem dX10_refuses_24 : decode cX10_refuses 24 = .ok (.getfield 52, 3) := by decide +kernel
theorem dX10_refuses_27 : decode cX10_refuses 27 = .ok (.goto 4, 3) := by decide +kernel
theorem dX10_refuses_30 : decode cX10_refuses 30 = .ok (.iconst 0, 1) := by decide +kernel
theorem dX10_refuses_31 : decode cX10_refuses 31 = .ok (.putfield 55, 3) := by decide +kernel
theorem dX10_refuses_34 : decode cX10_refuses 34 = .ok (.iconst 0, 1) := by decide +kernel
theorem dX10_refuses_35 : decode cX10_refuses 35 = .ok (.ireturn, 1) := by decide +kernel
theorem dX10_in_0 : decode cX10_in 0 = .ok (.iload_n 0, 1) := by decide +kernel
theorem dX10_in_1 : decode cX10_in 1 = .ok (.iload_n 1, 1) := by decide +kernel
theorem dX10_in_2 : decode cX10_in 2 = .ok (.if_icmp .lt 12, 3) := by decide +kernel
theorem dX10_in_5 : decode cX10_in 5 = .ok (.iload_n 0, 1) := by decide +kernel
theorem dX10_in_6 : decode cX10_in 6 = .ok (.iload_n 2, 1) := by decide +kernel
theorem dX10_in_7 : decode cX10_in 7 = .ok (.if_icmp .gt 7, 3) := by decide +kernel
theorem dX10_in_10 : decode cX10_in 10 = .ok (.iconst 1, 1) := by decide +kernel
theorem dX10_in_11 : decode cX10_in 11 = .ok (.goto 4, 3) := by decide +kernel
theorem dX10_in_14 : decode cX10_in 14 = .ok (.iconst 0, 1) := by decide +kernel
theorem dX10_in_15 : decode cX10_in 15 = .ok (.ireturn, 1) := by decide +kernel
theorem dX10_atMost_0 : decode cX10_atMost 0 = .ok (.iload_n 0, 1) := by decide +kernel
theorem dX10_atMost_1 : decode cX10_atMost 1 = .ok (.iload_n 1, 1) := by decide +kernel
theorem dX10_atMost_2 : decode cX10_atMost 2 = .ok (.if_icmp .ge 7, 3) := by decide +kernel
theorem dX10_atMost_5 : decode cX10_atMost 5 = .ok (.iload_n 0, 1) := by decide +kernel
theorem dX10_atMost_6 : decode cX10_atMost 6 = .ok (.goto 4, 3) := by decide +kernel
theorem dX10_atMost_9 : decode cX10_atMost 9 = .ok (.iload_n 1, 1) := by decide +kernel
theorem dX10_atMost_10 : decode cX10_atMost 10 = .ok (.ireturn, 1) := by decide +kernel
theorem dX10_copies_0 : decode cX10_copies 0 = .ok (.iconst 0, 1) := by decide +kernel
theorem dX10_copies_1 : decode cX10_copies 1 = .ok (.istore 4, 2) := by decide +kernel
theorem dX10_copies_3 : decode cX10_copies 3 = .ok (.iload 4, 2) := by decide +kernel
theorem dX10_copies_5 : decode cX10_copies 5 = .ok (.sipush 140, 3) := by decide +kernel
theorem dX10_copies_8 : decode cX10_copies 8 = .ok (.if_icmp .ge 21, 3) := by decide +kernel
theorem dX10_copies_11 : decode cX10_copies 11 = .ok (.aload_n 2, 1) := by decide +kernel
theorem dX10_copies_12 : decode cX10_copies 12 = .ok (.iload_n 3, 1) := by decide +kernel
theorem dX10_copies_13 : decode cX10_copies 13 = .ok (.iload 4, 2) := by decide +kernel
theorem dX10_copies_15 : decode cX10_copies 15 = .ok (.iadd, 1) := by decide +kernel
theorem dX10_copies_16 : decode cX10_copies 16 = .ok (.aload_n 0, 1) := by decide +kernel
theorem dX10_copies_17 : decode cX10_copies 17 = .ok (.iload_n 1, 1) := by decide +kernel
theorem dX10_copies_18 : decode cX10_copies 18 = .ok (.iload 4, 2) := by decide +kernel
theorem dX10_copies_20 : decode cX10_copies 20 = .ok (.iadd, 1) := by decide +kernel
theorem dX10_copies_21 : decode cX10_copies 21 = .ok (.iaload, 1) := by decide +kernel
theorem dX10_copies_22 : decode cX10_copies 22 = .ok (.iastore, 1) := by decide +kernel
theorem dX10_copies_23 : decode cX10_copies 23 = .ok (.iinc 4 1, 3) := by decide +kernel
theorem dX10_copies_26 : decode cX10_copies 26 = .ok (.goto (-23), 3) := by decide +kernel
theorem dX10_copies_29 : decode cX10_copies 29 = .ok (.return_, 1) := by decide +kernel
theorem dX10_keeps_0 : decode cX10_keeps 0 = .ok (.aload_n 0, 1) := by decide +kernel
theorem dX10_keeps_1 : decode cX10_keeps 1 = .ok (.iconst 0, 1) := by decide +kernel
theorem dX10_keeps_2 : decode cX10_keeps 2 = .ok (.putfield 39, 3) := by decide +kernel
theorem dX10_keeps_5 : decode cX10_keeps 5 = .ok (.aload_n 0, 1) := by decide +kernel
theorem dX10_keeps_6 : decode cX10_keeps 6 = .ok (.getfield 48, 3) := by decide +kernel
theorem dX10_keeps_9 : decode cX10_keeps 9 = .ok (.ifCond .eq 4, 3) := by decide +kernel
theorem dX10_keeps_12 : decode cX10_keeps 12 = .ok (.return_, 1) := by decide +kernel
theorem dX10_keeps_13 : decode cX10_keeps 13 = .ok (.aload_n 0, 1) := by decide +kernel
theorem dX10_keeps_14 : decode cX10_keeps 14 = .ok (.getfield 58, 3) := by decide +kernel
theorem dX10_keeps_17 : decode cX10_keeps 17 = .ok (.bipush 8, 2) := by decide +kernel
theorem dX10_keeps_19 : decode cX10_keeps 19 = .ok (.if_icmp .ne 44, 3) := by decide +kernel
theorem dX10_keeps_22 : decode cX10_keeps 22 = .ok (.iconst 0, 1) := by decide +kernel
theorem dX10_keeps_23 : decode cX10_keeps 23 = .ok (.istore_n 2, 1) := by decide +kernel
theorem dX10_keeps_24 : decode cX10_keeps 24 = .ok (.iload_n 2, 1) := by decide +kernel
theorem dX10_keeps_25 : decode cX10_keeps 25 = .ok (.sipush 980, 3) := by decide +kernel
theorem dX10_keeps_28 : decode cX10_keeps 28 = .ok (.if_icmp .ge 25, 3) := by decide +kernel
theorem dX10_keeps_31 : decode cX10_keeps 31 = .ok (.aload_n 0, 1) := by decide +kernel
theorem dX10_keeps_32 : decode cX10_keeps 32 = .ok (.getfield 13, 3) := by decide +kernel
theorem dX10_keeps_35 : decode cX10_keeps 35 = .ok (.iload_n 2, 1) := by decide +kernel
theorem dX10_keeps_36 : decode cX10_keeps 36 = .ok (.aload_n 0, 1) := by decide +kernel
theorem dX10_keeps_37 : decode cX10_keeps 37 = .ok (.getfield 13, 3) := by decide +kernel
theorem dX10_keeps_40 : decode cX10_keeps 40 = .ok (.iload_n 2, 1) := by decide +kernel
theorem dX10_keeps_41 : decode cX10_keeps 41 = .ok (.sipush 140, 3) := by decide +kernel
theorem dX10_keeps_44 : decode cX10_keeps 44 = .ok (.iadd, 1) := by decide +kernel
theorem dX10_keeps_45 : decode cX10_keeps 45 = .ok (.iaload, 1) := by decide +kernel
theorem dX10_keeps_46 : decode cX10_keeps 46 = .ok (.iastore, 1) := by decide +kernel
theorem dX10_keeps_47 : decode cX10_keeps 47 = .ok (.iinc 2 1, 3) := by decide +kernel
theorem dX10_keeps_50 : decode cX10_keeps 50 = .ok (.goto (-26), 3) := by decide +kernel
theorem dX10_keeps_53 : decode cX10_keeps 53 = .ok (.aload_n 0, 1) := by decide +kernel
theorem dX10_keeps_54 : decode cX10_keeps 54 = .ok (.dup, 1) := by decide +kernel
theorem dX10_keeps_55 : decode cX10_keeps 55 = .ok (.getfield 58, 3) := by decide +kernel
theorem dX10_keeps_58 : decode cX10_keeps 58 = .ok (.iconst 1, 1) := by decide +kernel
theorem dX10_keeps_59 : decode cX10_keeps 59 = .ok (.isub, 1) := by decide +kernel
theorem dX10_keeps_60 : decode cX10_keeps 60 = .ok (.putfield 58, 3) := by decide +kernel
theorem dX10_keeps_63 : decode cX10_keeps 63 = .ok (.aload_n 1, 1) := by decide +kernel
theorem dX10_keeps_64 : decode cX10_keeps 64 = .ok (.iconst 0, 1) := by decide +kernel
theorem dX10_keeps_65 : decode cX10_keeps 65 = .ok (.aload_n 0, 1) := by decide +kernel
theorem dX10_keeps_66 : decode cX10_keeps 66 = .ok (.getfield 13, 3) := by decide +kernel
theorem dX10_keeps_69 : decode cX10_keeps 69 = .ok (.sipush 140, 3) := by decide +kernel
theorem dX10_keeps_72 : decode cX10_keeps 72 = .ok (.aload_n 0, 1) := by decide +kernel
theorem dX10_keeps_73 : decode cX10_keeps 73 = .ok (.getfield 58, 3) := by decide +kernel
theorem dX10_keeps_76 : decode cX10_keeps 76 = .ok (.imul, 1) := by decide +kernel
theorem dX10_keeps_77 : decode cX10_keeps 77 = .ok (.invokestatic 61, 3) := by decide +kernel
theorem dX10_keeps_80 : decode cX10_keeps 80 = .ok (.aload_n 0, 1) := by decide +kernel
theorem dX10_keeps_81 : decode cX10_keeps 81 = .ok (.dup, 1) := by decide +kernel
theorem dX10_keeps_82 : decode cX10_keeps 82 = .ok (.getfield 58, 3) := by decide +kernel
theorem dX10_keeps_85 : decode cX10_keeps 85 = .ok (.iconst 1, 1) := by decide +kernel
theorem dX10_keeps_86 : decode cX10_keeps 86 = .ok (.iadd, 1) := by decide +kernel
theorem dX10_keeps_87 : decode cX10_keeps 87 = .ok (.putfield 58, 3) := by decide +kernel
theorem dX10_keeps_90 : decode cX10_keeps 90 = .ok (.return_, 1) := by decide +kernel
theorem dX10_of_0 : decode cX10_of 0 = .ok (.aload_n 0, 1) := by decide +kernel
theorem dX10_of_1 : decode cX10_of 1 = .ok (.getfield 7, 3) := by decide +kernel
theorem dX10_of_4 : decode cX10_of 4 = .ok (.bipush 8, 2) := by decide +kernel
theorem dX10_of_6 : decode cX10_of 6 = .ok (.bipush 11, 2) := by decide +kernel
theorem dX10_of_8 : decode cX10_of 8 = .ok (.iload_n 1, 1) := by decide +kernel
theorem dX10_of_9 : decode cX10_of 9 = .ok (.imul, 1) := by decide +kernel
theorem dX10_of_10 : decode cX10_of 10 = .ok (.iadd, 1) := by decide +kernel
theorem dX10_of_11 : decode cX10_of 11 = .ok (.iload_n 2, 1) := by decide +kernel
theorem dX10_of_12 : decode cX10_of 12 = .ok (.iadd, 1) := by decide +kernel
theorem dX10_of_13 : decode cX10_of 13 = .ok (.iaload, 1) := by decide +kernel
theorem dX10_of_14 : decode cX10_of 14 = .ok (.ireturn, 1) := by decide +kernel
theorem dX10_lays_0 : decode cX10_lays 0 = .ok (.aload_n 0, 1) := by decide +kernel
theorem dX10_lays_1 : decode cX10_lays 1 = .ok (.getfield 7, 3) := by decide +kernel
theorem dX10_lays_4 : decode cX10_lays 4 = .ok (.bipush 8, 2) := by decide +kernel
theorem dX10_lays_6 : decode cX10_lays 6 = .ok (.bipush 11, 2) := by decide +kernel
theorem dX10_lays_8 : decode cX10_lays 8 = .ok (.iload_n 1, 1) := by decide +kernel
theorem dX10_lays_9 : decode cX10_lays 9 = .ok (.imul, 1) := by decide +kernel
theorem dX10_lays_10 : decode cX10_lays 10 = .ok (.iadd, 1) := by decide +kernel
theorem dX10_lays_11 : decode cX10_lays 11 = .ok (.iload_n 2, 1) := by decide +kernel
theorem dX10_lays_12 : decode cX10_lays 12 = .ok (.iadd, 1) := by decide +kernel
theorem dX10_lays_13 : decode cX10_lays 13 = .ok (.iload_n 3, 1) := by decide +kernel
theorem dX10_lays_14 : decode cX10_lays 14 = .ok (.iastore, 1) := by decide +kernel
theorem dX10_lays_15 : decode cX10_lays 15 = .ok (.return_, 1) := by decide +kernel
theorem dX10_isFish_0 : decode cX10_isFish 0 = .ok (.iload_n 1, 1) := by decide +kernel
theorem dX10_isFish_1 : decode cX10_isFish 1 = .ok (.iconst 0, 1) := by decide +kernel
theorem dX10_isFish_2 : decode cX10_isFish 2 = .ok (.aload_n 0, 1) := by decide +kernel
theorem dX10_isFish_3 : decode cX10_isFish 3 = .ok (.getfield 7, 3) := by decide +kernel
theorem dX10_isFish_6 : decode cX10_isFish 6 = .ok (.iconst 0, 1) := by decide +kernel
theorem dX10_isFish_7 : decode cX10_isFish 7 = .ok (.iaload, 1) := by decide +kernel
theorem dX10_isFish_8 : decode cX10_isFish 8 = .ok (.iconst 1, 1) := by decide +kernel
theorem dX10_isFish_9 : decode cX10_isFish 9 = .ok (.isub, 1) := by decide +kernel
theorem dX10_isFish_10 : decode cX10_isFish 10 = .ok (.invokestatic 65, 3) := by decide +kernel
theorem dX10_isFish_13 : decode cX10_isFish 13 = .ok (.ireturn, 1) := by decide +kernel
theorem dX10_many_0 : decode cX10_many 0 = .ok (.iconst 0, 1) := by decide +kernel
theorem dX10_many_1 : decode cX10_many 1 = .ok (.istore_n 2, 1) := by decide +kernel
theorem dX10_many_2 : decode cX10_many 2 = .ok (.iconst 0, 1) := by decide +kernel
theorem dX10_many_3 : decode cX10_many 3 = .ok (.istore_n 3, 1) := by decide +kernel
theorem dX10_many_4 : decode cX10_many 4 = .ok (.iload_n 3, 1) := by decide +kernel
theorem dX10_many_5 : decode cX10_many 5 = .ok (.aload_n 0, 1) := by decide +kernel
theorem dX10_many_6 : decode cX10_many 6 = .ok (.getfield 7, 3) := by decide +kernel
theorem dX10_many_9 : decode cX10_many 9 = .ok (.iconst 0, 1) := by decide +kernel
theorem dX10_many_10 : decode cX10_many 10 = .ok (.iaload, 1) := by decide +kernel
theorem dX10_many_11 : decode cX10_many 11 = .ok (.if_icmp .ge 27, 3) := by decide +kernel
theorem dX10_many_14 : decode cX10_many 14 = .ok (.iload_n 2, 1) := by decide +kernel
theorem dX10_many_15 : decode cX10_many 15 = .ok (.aload_n 0, 1) := by decide +kernel
theorem dX10_many_16 : decode cX10_many 16 = .ok (.iload_n 3, 1) := by decide +kernel
theorem dX10_many_17 : decode cX10_many 17 = .ok (.iconst 2, 1) := by decide +kernel
theorem dX10_many_18 : decode cX10_many 18 = .ok (.invokevirtual 69, 3) := by decide +kernel
theorem dX10_many_21 : decode cX10_many 21 = .ok (.iload_n 1, 1) := by decide +kernel
theorem dX10_many_22 : decode cX10_many 22 = .ok (.if_icmp .ne 7, 3) := by decide +kernel
theorem dX10_many_25 : decode cX10_many 25 = .ok (.iconst 1, 1) := by decide +kernel
theorem dX10_many_26 : decode cX10_many 26 = .ok (.goto 4, 3) := by decide +kernel
theorem dX10_many_29 : decode cX10_many 29 = .ok (.iconst 0, 1) := by decide +kernel
theorem dX10_many_30 : decode cX10_many 30 = .ok (.iadd, 1) := by decide +kernel
theorem dX10_many_31 : decode cX10_many 31 = .ok (.istore_n 2, 1) := by decide +kernel
theorem dX10_many_32 : decode cX10_many 32 = .ok (.iinc 3 1, 3) := by decide +kernel
theorem dX10_many_35 : decode cX10_many 35 = .ok (.goto (-31), 3) := by decide +kernel
theorem dX10_many_38 : decode cX10_many 38 = .ok (.iload_n 2, 1) := by decide +kernel
theorem dX10_many_39 : decode cX10_many 39 = .ok (.ireturn, 1) := by decide +kernel
theorem dX10_hangs_0 : decode cX10_hangs 0 = .ok (.aload_n 0, 1) := by decide +kernel
theorem dX10_hangs_1 : decode cX10_hangs 1 = .ok (.iload_n 1, 1) := by decide +kernel
theorem dX10_hangs_2 : decode cX10_hangs 2 = .ok (.iconst 2, 1) := by decide +kernel
theorem dX10_hangs_3 : decode cX10_hangs 3 = .ok (.invokevirtual 69, 3) := by decide +kernel
theorem dX10_hangs_6 : decode cX10_hangs 6 = .ok (.iconst 2, 1) := by decide +kernel
theorem dX10_hangs_7 : decode cX10_hangs 7 = .ok (.if_icmp .ne 7, 3) := by decide +kernel
theorem dX10_hangs_10 : decode cX10_hangs 10 = .ok (.iconst 1, 1) := by decide +kernel
theorem dX10_hangs_11 : decode cX10_hangs 11 = .ok (.goto 4, 3) := by decide +kernel
theorem dX10_hangs_14 : decode cX10_hangs 14 = .ok (.iconst 0, 1) := by decide +kernel
theorem dX10_hangs_15 : decode cX10_hangs 15 = .ok (.ireturn, 1) := by decide +kernel
theorem dX10_onRack_0 : decode cX10_onRack 0 = .ok (.iconst 0, 1) := by decide +kernel
theorem dX10_onRack_1 : decode cX10_onRack 1 = .ok (.istore_n 2, 1) := by decide +kernel
theorem dX10_onRack_2 : decode cX10_onRack 2 = .ok (.iconst 0, 1) := by decide +kernel
theorem dX10_onRack_3 : decode cX10_onRack 3 = .ok (.istore_n 3, 1) := by decide +kernel
theorem dX10_onRack_4 : decode cX10_onRack 4 = .ok (.iload_n 3, 1) := by decide +kernel
theorem dX10_onRack_5 : decode cX10_onRack 5 = .ok (.aload_n 0, 1) := by decide +kernel
theorem dX10_onRack_6 : decode cX10_onRack 6 = .ok (.getfield 7, 3) := by decide +kernel
theorem dX10_onRack_9 : decode cX10_onRack 9 = .ok (.iconst 0, 1) := by decide +kernel
theorem dX10_onRack_10 : decode cX10_onRack 10 = .ok (.iaload, 1) := by decide +kernel
theorem dX10_onRack_11 : decode cX10_onRack 11 = .ok (.if_icmp .ge 35, 3) := by decide +kernel
theorem dX10_onRack_14 : decode cX10_onRack 14 = .ok (.iload_n 2, 1) := by decide +kernel
theorem dX10_onRack_15 : decode cX10_onRack 15 = .ok (.aload_n 0, 1) := by decide +kernel
theorem dX10_onRack_16 : decode cX10_onRack 16 = .ok (.iload_n 3, 1) := by decide +kernel
theorem dX10_onRack_17 : decode cX10_onRack 17 = .ok (.invokevirtual 73, 3) := by decide +kernel
theorem dX10_onRack_20 : decode cX10_onRack 20 = .ok (.ifCond .eq 17, 3) := by decide +kernel
theorem dX10_onRack_23 : decode cX10_onRack 23 = .ok (.aload_n 0, 1) := by decide +kernel
theorem dX10_onRack_24 : decode cX10_onRack 24 = .ok (.iload_n 3, 1) := by decide +kernel
theorem dX10_onRack_25 : decode cX10_onRack 25 = .ok (.iconst 3, 1) := by decide +kernel
theorem dX10_onRack_26 : decode cX10_onRack 26 = .ok (.invokevirtual 69, 3) := by decide +kernel
theorem dX10_onRack_29 : decode cX10_onRack 29 = .ok (.iload_n 1, 1) := by decide +kernel
theorem dX10_onRack_30 : decode cX10_onRack 30 = .ok (.if_icmp .ne 7, 3) := by decide +kernel
theorem dX10_onRack_33 : decode cX10_onRack 33 = .ok (.iconst 1, 1) := by decide +kernel
theorem dX10_onRack_34 : decode cX10_onRack 34 = .ok (.goto 4, 3) := by decide +kernel
theorem dX10_onRack_37 : decode cX10_onRack 37 = .ok (.iconst 0, 1) := by decide +kernel
theorem dX10_onRack_38 : decode cX10_onRack 38 = .ok (.iadd, 1) := by decide +kernel
theorem dX10_onRack_39 : decode cX10_onRack 39 = .ok (.istore_n 2, 1) := by decide +kernel
theorem dX10_onRack_40 : decode cX10_onRack 40 = .ok (.iinc 3 1, 3) := by decide +kernel
theorem dX10_onRack_43 : decode cX10_onRack 43 = .ok (.goto (-39), 3) := by decide +kernel
theorem dX10_onRack_46 : decode cX10_onRack 46 = .ok (.iload_n 2, 1) := by decide +kernel
theorem dX10_onRack_47 : decode cX10_onRack 47 = .ok (.ireturn, 1) := by decide +kernel
theorem dX10_onHook_0 : decode cX10_onHook 0 = .ok (.iconst 0, 1) := by decide +kernel
theorem dX10_onHook_1 : decode cX10_onHook 1 = .ok (.istore_n 3, 1) := by decide +kernel
theorem dX10_onHook_2 : decode cX10_onHook 2 = .ok (.iload_n 3, 1) := by decide +kernel
theorem dX10_onHook_3 : decode cX10_onHook 3 = .ok (.aload_n 0, 1) := by decide +kernel
theorem dX10_onHook_4 : decode cX10_onHook 4 = .ok (.getfield 7, 3) := by decide +kernel
theorem dX10_onHook_7 : decode cX10_onHook 7 = .ok (.iconst 0, 1) := by decide +kernel
theorem dX10_onHook_8 : decode cX10_onHook 8 = .ok (.iaload, 1) := by decide +kernel
theorem dX10_onHook_9 : decode cX10_onHook 9 = .ok (.if_icmp .ge 39, 3) := by decide +kernel
theorem dX10_onHook_12 : decode cX10_onHook 12 = .ok (.aload_n 0, 1) := by decide +kernel
theorem dX10_onHook_13 : decode cX10_onHook 13 = .ok (.iload_n 3, 1) := by decide +kernel
theorem dX10_onHook_14 : decode cX10_onHook 14 = .ok (.invokevirtual 73, 3) := by decide +kernel
theorem dX10_onHook_17 : decode cX10_onHook 17 = .ok (.ifCond .eq 25, 3) := by decide +kernel
theorem dX10_onHook_20 : decode cX10_onHook 20 = .ok (.aload_n 0, 1) := by decide +kernel
theorem dX10_onHook_21 : decode cX10_onHook 21 = .ok (.iload_n 3, 1) := by decide +kernel
theorem dX10_onHook_22 : decode cX10_onHook 22 = .ok (.iconst 3, 1) := by decide +kernel
theorem dX10_onHook_23 : decode cX10_onHook 23 = .ok (.invokevirtual 69, 3) := by decide +kernel
theorem dX10_onHook_26 : decode cX10_onHook 26 = .ok (.iload_n 1, 1) := by decide +kernel
theorem dX10_onHook_27 : decode cX10_onHook 27 = .ok (.if_icmp .ne 15, 3) := by decide +kernel
theorem dX10_onHook_30 : decode cX10_onHook 30 = .ok (.aload_n 0, 1) := by decide +kernel
theorem dX10_onHook_31 : decode cX10_onHook 31 = .ok (.iload_n 3, 1) := by decide +kernel
theorem dX10_onHook_32 : decode cX10_onHook 32 = .ok (.iconst 4, 1) := by decide +kernel
theorem dX10_onHook_33 : decode cX10_onHook 33 = .ok (.invokevirtual 69, 3) := by decide +kernel
theorem dX10_onHook_36 : decode cX10_onHook 36 = .ok (.iload_n 2, 1) := by decide +kernel
theorem dX10_onHook_37 : decode cX10_onHook 37 = .ok (.if_icmp .ne 5, 3) := by decide +kernel
theorem dX10_onHook_40 : decode cX10_onHook 40 = .ok (.iload_n 3, 1) := by decide +kernel
theorem dX10_onHook_41 : decode cX10_onHook 41 = .ok (.ireturn, 1) := by decide +kernel
theorem dX10_onHook_42 : decode cX10_onHook 42 = .ok (.iinc 3 1, 3) := by decide +kernel
theorem dX10_onHook_45 : decode cX10_onHook 45 = .ok (.goto (-43), 3) := by decide +kernel
theorem dX10_onHook_48 : decode cX10_onHook 48 = .ok (.iconst (-1), 1) := by decide +kernel
theorem dX10_onHook_49 : decode cX10_onHook 49 = .ok (.ireturn, 1) := by decide +kernel
theorem dX10_gap_0 : decode cX10_gap 0 = .ok (.iload_n 0, 1) := by decide +kernel
theorem dX10_gap_1 : decode cX10_gap 1 = .ok (.iload_n 1, 1) := by decide +kernel
theorem dX10_gap_2 : decode cX10_gap 2 = .ok (.if_icmp .ge 9, 3) := by decide +kernel
theorem dX10_gap_5 : decode cX10_gap 5 = .ok (.iload_n 1, 1) := by decide +kernel
theorem dX10_gap_6 : decode cX10_gap 6 = .ok (.iload_n 0, 1) := by decide +kernel
theorem dX10_gap_7 : decode cX10_gap 7 = .ok (.isub, 1) := by decide +kernel
theorem dX10_gap_8 : decode cX10_gap 8 = .ok (.goto 6, 3) := by decide +kernel
theorem dX10_gap_11 : decode cX10_gap 11 = .ok (.iload_n 0, 1) := by decide +kernel
theorem dX10_gap_12 : decode cX10_gap 12 = .ok (.iload_n 1, 1) := by decide +kernel
theorem dX10_gap_13 : decode cX10_gap 13 = .ok (.isub, 1) := by decide +kernel
theorem dX10_gap_14 : decode cX10_gap 14 = .ok (.ireturn, 1) := by decide +kernel
theorem dX10_far_0 : decode cX10_far 0 = .ok (.bipush 99, 2) := by decide +kernel
theorem dX10_far_2 : decode cX10_far 2 = .ok (.istore 4, 2) := by decide +kernel
theorem dX10_far_4 : decode cX10_far 4 = .ok (.iconst 0, 1) := by decide +kernel
theorem dX10_far_5 : decode cX10_far 5 = .ok (.istore 5, 2) := by decide +kernel
theorem dX10_far_7 : decode cX10_far 7 = .ok (.iload 5, 2) := by decide +kernel
theorem dX10_far_9 : decode cX10_far 9 = .ok (.aload_n 0, 1) := by decide +kernel
theorem dX10_far_10 : decode cX10_far 10 = .ok (.getfield 7, 3) := by decide +kernel
theorem dX10_far_13 : decode cX10_far 13 = .ok (.iconst 0, 1) := by decide +kernel
theorem dX10_far_14 : decode cX10_far 14 = .ok (.iaload, 1) := by decide +kernel
theorem dX10_far_15 : decode cX10_far 15 = .ok (.if_icmp .ge 53, 3) := by decide +kernel
theorem dX10_far_18 : decode cX10_far 18 = .ok (.iload 5, 2) := by decide +kernel
theorem dX10_far_20 : decode cX10_far 20 = .ok (.iload_n 1, 1) := by decide +kernel
theorem dX10_far_21 : decode cX10_far 21 = .ok (.if_icmp .eq 41, 3) := by decide +kernel
theorem dX10_far_24 : decode cX10_far 24 = .ok (.aload_n 0, 1) := by decide +kernel
theorem dX10_far_25 : decode cX10_far 25 = .ok (.iload 5, 2) := by decide +kernel
theorem dX10_far_27 : decode cX10_far 27 = .ok (.invokevirtual 73, 3) := by decide +kernel
theorem dX10_far_30 : decode cX10_far 30 = .ok (.ifCond .eq 32, 3) := by decide +kernel
theorem dX10_far_33 : decode cX10_far 33 = .ok (.aload_n 0, 1) := by decide +kernel
theorem dX10_far_34 : decode cX10_far 34 = .ok (.iload 5, 2) := by decide +kernel
theorem dX10_far_36 : decode cX10_far 36 = .ok (.iconst 3, 1) := by decide +kernel
theorem dX10_far_37 : decode cX10_far 37 = .ok (.invokevirtual 69, 3) := by decide +kernel
theorem dX10_far_40 : decode cX10_far 40 = .ok (.iload_n 2, 1) := by decide +kernel
theorem dX10_far_41 : decode cX10_far 41 = .ok (.if_icmp .ne 21, 3) := by decide +kernel
theorem dX10_far_44 : decode cX10_far 44 = .ok (.aload_n 0, 1) := by decide +kernel
theorem dX10_far_45 : decode cX10_far 45 = .ok (.iload 5, 2) := by decide +kernel
theorem dX10_far_47 : decode cX10_far 47 = .ok (.iconst 4, 1) := by decide +kernel
theorem dX10_far_48 : decode cX10_far 48 = .ok (.invokevirtual 69, 3) := by decide +kernel
theorem dX10_far_51 : decode cX10_far 51 = .ok (.iload_n 3, 1) := by decide +kernel
theorem dX10_far_52 : decode cX10_far 52 = .ok (.invokestatic 77, 3) := by decide +kernel
theorem dX10_far_55 : decode cX10_far 55 = .ok (.iload 4, 2) := by decide +kernel
theorem dX10_far_57 : decode cX10_far 57 = .ok (.invokestatic 80, 3) := by decide +kernel
theorem dX10_far_60 : decode cX10_far 60 = .ok (.istore 4, 2) := by decide +kernel
theorem dX10_far_62 : decode cX10_far 62 = .ok (.iinc 5 1, 3) := by decide +kernel
theorem dX10_far_65 : decode cX10_far 65 = .ok (.goto (-58), 3) := by decide +kernel
theorem dX10_far_68 : decode cX10_far 68 = .ok (.iload 4, 2) := by decide +kernel
theorem dX10_far_70 : decode cX10_far 70 = .ok (.ireturn, 1) := by decide +kernel
theorem dX10_needs_0 : decode cX10_needs 0 = .ok (.iconst 1, 1) := by decide +kernel
theorem dX10_needs_1 : decode cX10_needs 1 = .ok (.aload_n 0, 1) := by decide +kernel
theorem dX10_needs_2 : decode cX10_needs 2 = .ok (.iload_n 1, 1) := by decide +kernel
theorem dX10_needs_3 : decode cX10_needs 3 = .ok (.iconst 0, 1) := by decide +kernel
theorem dX10_needs_4 : decode cX10_needs 4 = .ok (.invokevirtual 69, 3) := by decide +kernel
theorem dX10_needs_7 : decode cX10_needs 7 = .ok (.iconst 3, 1) := by decide +kernel
theorem dX10_needs_8 : decode cX10_needs 8 = .ok (.idiv, 1) := by decide +kernel
theorem dX10_needs_9 : decode cX10_needs 9 = .ok (.iadd, 1) := by decide +kernel
theorem dX10_needs_10 : decode cX10_needs 10 = .ok (.ireturn, 1) := by decide +kernel
theorem dX10_isNear_0 : decode cX10_isNear 0 = .ok (.aload_n 0, 1) := by decide +kernel
theorem dX10_isNear_1 : decode cX10_isNear 1 = .ok (.iload_n 1, 1) := by decide +kernel
theorem dX10_isNear_2 : decode cX10_isNear 2 = .ok (.invokevirtual 73, 3) := by decide +kernel
theorem dX10_isNear_5 : decode cX10_isNear 5 = .ok (.ifCond .eq 32, 3) := by decide +kernel
theorem dX10_isNear_8 : decode cX10_isNear 8 = .ok (.aload_n 0, 1) := by decide +kernel
theorem dX10_isNear_9 : decode cX10_isNear 9 = .ok (.iload_n 1, 1) := by decide +kernel
theorem dX10_isNear_10 : decode cX10_isNear 10 = .ok (.aload_n 0, 1) := by decide +kernel
theorem dX10_isNear_11 : decode cX10_isNear 11 = .ok (.iload_n 1, 1) := by decide +kernel
theorem dX10_isNear_12 : decode cX10_isNear 12 = .ok (.iconst 3, 1) := by decide +kernel
theorem dX10_isNear_13 : decode cX10_isNear 13 = .ok (.invokevirtual 69, 3) := by decide +kernel
theorem dX10_isNear_16 : decode cX10_isNear 16 = .ok (.aload_n 0, 1) := by decide +kernel
theorem dX10_isNear_17 : decode cX10_isNear 17 = .ok (.iload_n 1, 1) := by decide +kernel
theorem dX10_isNear_18 : decode cX10_isNear 18 = .ok (.iconst 4, 1) := by decide +kernel
theorem dX10_isNear_19 : decode cX10_isNear 19 = .ok (.invokevirtual 69, 3) := by decide +kernel
theorem dX10_isNear_22 : decode cX10_isNear 22 = .ok (.invokevirtual 83, 3) := by decide +kernel
theorem dX10_isNear_25 : decode cX10_isNear 25 = .ok (.aload_n 0, 1) := by decide +kernel
theorem dX10_isNear_26 : decode cX10_isNear 26 = .ok (.iload_n 1, 1) := by decide +kernel
theorem dX10_isNear_27 : decode cX10_isNear 27 = .ok (.invokevirtual 87, 3) := by decide +kernel
theorem dX10_isNear_30 : decode cX10_isNear 30 = .ok (.if_icmp .ge 7, 3) := by decide +kernel
theorem dX10_isNear_33 : decode cX10_isNear 33 = .ok (.iconst 1, 1) := by decide +kernel
theorem dX10_isNear_34 : decode cX10_isNear 34 = .ok (.goto 4, 3) := by decide +kernel
theorem dX10_isNear_37 : decode cX10_isNear 37 = .ok (.iconst 0, 1) := by decide +kernel
theorem dX10_isNear_38 : decode cX10_isNear 38 = .ok (.ireturn, 1) := by decide +kernel
theorem dX10_bears_0 : decode cX10_bears 0 = .ok (.iconst 2, 1) := by decide +kernel
theorem dX10_bears_1 : decode cX10_bears 1 = .ok (.aload_n 0, 1) := by decide +kernel
theorem dX10_bears_2 : decode cX10_bears 2 = .ok (.iload_n 1, 1) := by decide +kernel
theorem dX10_bears_3 : decode cX10_bears 3 = .ok (.iconst 1, 1) := by decide +kernel
theorem dX10_bears_4 : decode cX10_bears 4 = .ok (.invokevirtual 69, 3) := by decide +kernel
theorem dX10_bears_7 : decode cX10_bears 7 = .ok (.iconst 3, 1) := by decide +kernel
theorem dX10_bears_8 : decode cX10_bears 8 = .ok (.idiv, 1) := by decide +kernel
theorem dX10_bears_9 : decode cX10_bears 9 = .ok (.iadd, 1) := by decide +kernel
theorem dX10_bears_10 : decode cX10_bears 10 = .ok (.ireturn, 1) := by decide +kernel
theorem dX10_heatOf_0 : decode cX10_heatOf 0 = .ok (.aload_n 0, 1) := by decide +kernel
theorem dX10_heatOf_1 : decode cX10_heatOf 1 = .ok (.getfield 7, 3) := by decide +kernel
theorem dX10_heatOf_4 : decode cX10_heatOf 4 = .ok (.iconst 1, 1) := by decide +kernel
theorem dX10_heatOf_5 : decode cX10_heatOf 5 = .ok (.iaload, 1) := by decide +kernel
theorem dX10_heatOf_6 : decode cX10_heatOf 6 = .ok (.iload_n 1, 1) := by decide +kernel
theorem dX10_heatOf_7 : decode cX10_heatOf 7 = .ok (.if_icmp .le 14, 3) := by decide +kernel
theorem dX10_heatOf_10 : decode cX10_heatOf 10 = .ok (.aload_n 0, 1) := by decide +kernel
theorem dX10_heatOf_11 : decode cX10_heatOf 11 = .ok (.getfield 7, 3) := by decide +kernel
theorem dX10_heatOf_14 : decode cX10_heatOf 14 = .ok (.iconst 1, 1) := by decide +kernel
theorem dX10_heatOf_15 : decode cX10_heatOf 15 = .ok (.iaload, 1) := by decide +kernel
theorem dX10_heatOf_16 : decode cX10_heatOf 16 = .ok (.iload_n 1, 1) := by decide +kernel
theorem dX10_heatOf_17 : decode cX10_heatOf 17 = .ok (.isub, 1) := by decide +kernel
theorem dX10_heatOf_18 : decode cX10_heatOf 18 = .ok (.goto 4, 3) := by decide +kernel
theorem dX10_heatOf_21 : decode cX10_heatOf 21 = .ok (.iconst 0, 1) := by decide +kernel
theorem dX10_heatOf_22 : decode cX10_heatOf 22 = .ok (.ireturn, 1) := by decide +kernel
theorem dX10_isBurnt_0 : decode cX10_isBurnt 0 = .ok (.aload_n 0, 1) := by decide +kernel
theorem dX10_isBurnt_1 : decode cX10_isBurnt 1 = .ok (.iload_n 1, 1) := by decide +kernel
theorem dX10_isBurnt_2 : decode cX10_isBurnt 2 = .ok (.bipush 9, 2) := by decide +kernel
theorem dX10_isBurnt_4 : decode cX10_isBurnt 4 = .ok (.invokevirtual 69, 3) := by decide +kernel
theorem dX10_isBurnt_7 : decode cX10_isBurnt 7 = .ok (.bipush 9, 2) := by decide +kernel
theorem dX10_isBurnt_9 : decode cX10_isBurnt 9 = .ok (.if_icmp .eq 15, 3) := by decide +kernel
theorem dX10_isBurnt_12 : decode cX10_isBurnt 12 = .ok (.aload_n 0, 1) := by decide +kernel
theorem dX10_isBurnt_13 : decode cX10_isBurnt 13 = .ok (.iload_n 1, 1) := by decide +kernel
theorem dX10_isBurnt_14 : decode cX10_isBurnt 14 = .ok (.bipush 10, 2) := by decide +kernel
theorem dX10_isBurnt_16 : decode cX10_isBurnt 16 = .ok (.invokevirtual 69, 3) := by decide +kernel
theorem dX10_isBurnt_19 : decode cX10_isBurnt 19 = .ok (.bipush 9, 2) := by decide +kernel
theorem dX10_isBurnt_21 : decode cX10_isBurnt 21 = .ok (.if_icmp .ne 7, 3) := by decide +kernel
theorem dX10_isBurnt_24 : decode cX10_isBurnt 24 = .ok (.iconst 1, 1) := by decide +kernel
theorem dX10_isBurnt_25 : decode cX10_isBurnt 25 = .ok (.goto 4, 3) := by decide +kernel
theorem dX10_isBurnt_28 : decode cX10_isBurnt 28 = .ok (.iconst 0, 1) := by decide +kernel
theorem dX10_isBurnt_29 : decode cX10_isBurnt 29 = .ok (.ireturn, 1) := by decide +kernel
theorem dX10_lacks_0 : decode cX10_lacks 0 = .ok (.iconst 5, 1) := by decide +kernel
theorem dX10_lacks_1 : decode cX10_lacks 1 = .ok (.aload_n 0, 1) := by decide +kernel
theorem dX10_lacks_2 : decode cX10_lacks 2 = .ok (.iload_n 1, 1) := by decide +kernel
theorem dX10_lacks_3 : decode cX10_lacks 3 = .ok (.iconst 0, 1) := by decide +kernel
theorem dX10_lacks_4 : decode cX10_lacks 4 = .ok (.invokevirtual 69, 3) := by decide +kernel
theorem dX10_lacks_7 : decode cX10_lacks 7 = .ok (.iadd, 1) := by decide +kernel
theorem dX10_lacks_8 : decode cX10_lacks 8 = .ok (.istore_n 2, 1) := by decide +kernel
theorem dX10_lacks_9 : decode cX10_lacks 9 = .ok (.iconst 0, 1) := by decide +kernel
theorem dX10_lacks_10 : decode cX10_lacks 10 = .ok (.istore_n 3, 1) := by decide +kernel
theorem dX10_lacks_11 : decode cX10_lacks 11 = .ok (.iconst 0, 1) := by decide +kernel
theorem dX10_lacks_12 : decode cX10_lacks 12 = .ok (.istore 4, 2) := by decide +kernel
theorem dX10_lacks_14 : decode cX10_lacks 14 = .ok (.iload 4, 2) := by decide +kernel
theorem dX10_lacks_16 : decode cX10_lacks 16 = .ok (.iconst 2, 1) := by decide +kernel
theorem dX10_lacks_17 : decode cX10_lacks 17 = .ok (.if_icmp .ge 42, 3) := by decide +kernel
theorem dX10_lacks_20 : decode cX10_lacks 20 = .ok (.iload_n 3, 1) := by decide +kernel
theorem dX10_lacks_21 : decode cX10_lacks 21 = .ok (.iload_n 2, 1) := by decide +kernel
theorem dX10_lacks_22 : decode cX10_lacks 22 = .ok (.aload_n 0, 1) := by decide +kernel
theorem dX10_lacks_23 : decode cX10_lacks 23 = .ok (.iload_n 1, 1) := by decide +kernel
theorem dX10_lacks_24 : decode cX10_lacks 24 = .ok (.bipush 7, 2) := by decide +kernel
theorem dX10_lacks_26 : decode cX10_lacks 26 = .ok (.iload 4, 2) := by decide +kernel
theorem dX10_lacks_28 : decode cX10_lacks 28 = .ok (.iadd, 1) := by decide +kernel
theorem dX10_lacks_29 : decode cX10_lacks 29 = .ok (.invokevirtual 69, 3) := by decide +kernel
theorem dX10_lacks_32 : decode cX10_lacks 32 = .ok (.if_icmp .le 18, 3) := by decide +kernel
theorem dX10_lacks_35 : decode cX10_lacks 35 = .ok (.iload_n 2, 1) := by decide +kernel
theorem dX10_lacks_36 : decode cX10_lacks 36 = .ok (.aload_n 0, 1) := by decide +kernel
theorem dX10_lacks_37 : decode cX10_lacks 37 = .ok (.iload_n 1, 1) := by decide +kernel
theorem dX10_lacks_38 : decode cX10_lacks 38 = .ok (.bipush 7, 2) := by decide +kernel
theorem dX10_lacks_40 : decode cX10_lacks 40 = .ok (.iload 4, 2) := by decide +kernel
theorem dX10_lacks_42 : decode cX10_lacks 42 = .ok (.iadd, 1) := by decide +kernel
theorem dX10_lacks_43 : decode cX10_lacks 43 = .ok (.invokevirtual 69, 3) := by decide +kernel
theorem dX10_lacks_46 : decode cX10_lacks 46 = .ok (.isub, 1) := by decide +kernel
theorem dX10_lacks_47 : decode cX10_lacks 47 = .ok (.goto 4, 3) := by decide +kernel
theorem dX10_lacks_50 : decode cX10_lacks 50 = .ok (.iconst 0, 1) := by decide +kernel
theorem dX10_lacks_51 : decode cX10_lacks 51 = .ok (.iadd, 1) := by decide +kernel
theorem dX10_lacks_52 : decode cX10_lacks 52 = .ok (.istore_n 3, 1) := by decide +kernel
theorem dX10_lacks_53 : decode cX10_lacks 53 = .ok (.iinc 4 1, 3) := by decide +kernel
theorem dX10_lacks_56 : decode cX10_lacks 56 = .ok (.goto (-42), 3) := by decide +kernel
theorem dX10_lacks_59 : decode cX10_lacks 59 = .ok (.iload_n 3, 1) := by decide +kernel
theorem dX10_lacks_60 : decode cX10_lacks 60 = .ok (.ireturn, 1) := by decide +kernel
theorem dX10_isReady_0 : decode cX10_isReady 0 = .ok (.aload_n 0, 1) := by decide +kernel
theorem dX10_isReady_1 : decode cX10_isReady 1 = .ok (.iload_n 1, 1) := by decide +kernel
theorem dX10_isReady_2 : decode cX10_isReady 2 = .ok (.invokevirtual 91, 3) := by decide +kernel
theorem dX10_isReady_5 : decode cX10_isReady 5 = .ok (.ifCond .ne 15, 3) := by decide +kernel
theorem dX10_isReady_8 : decode cX10_isReady 8 = .ok (.aload_n 0, 1) := by decide +kernel
theorem dX10_isReady_9 : decode cX10_isReady 9 = .ok (.iload_n 1, 1) := by decide +kernel
theorem dX10_isReady_10 : decode cX10_isReady 10 = .ok (.invokevirtual 94, 3) := by decide +kernel
theorem dX10_isReady_13 : decode cX10_isReady 13 = .ok (.ifCond .ne 7, 3) := by decide +kernel
theorem dX10_isReady_16 : decode cX10_isReady 16 = .ok (.iconst 1, 1) := by decide +kernel
theorem dX10_isReady_17 : decode cX10_isReady 17 = .ok (.goto 4, 3) := by decide +kernel
theorem dX10_isReady_20 : decode cX10_isReady 20 = .ok (.iconst 0, 1) := by decide +kernel
theorem dX10_isReady_21 : decode cX10_isReady 21 = .ok (.ireturn, 1) := by decide +kernel
theorem dX10_price_0 : decode cX10_price 0 = .ok (.iconst 3, 1) := by decide +kernel
theorem dX10_price_1 : decode cX10_price 1 = .ok (.aload_n 0, 1) := by decide +kernel
theorem dX10_price_2 : decode cX10_price 2 = .ok (.iload_n 1, 1) := by decide +kernel
theorem dX10_price_3 : decode cX10_price 3 = .ok (.iconst 0, 1) := by decide +kernel
theorem dX10_price_4 : decode cX10_price 4 = .ok (.invokevirtual 69, 3) := by decide +kernel
theorem dX10_price_7 : decode cX10_price 7 = .ok (.imul, 1) := by decide +kernel
theorem dX10_price_8 : decode cX10_price 8 = .ok (.aload_n 0, 1) := by decide +kernel
theorem dX10_price_9 : decode cX10_price 9 = .ok (.iload_n 1, 1) := by decide +kernel
theorem dX10_price_10 : decode cX10_price 10 = .ok (.iconst 1, 1) := by decide +kernel
theorem dX10_price_11 : decode cX10_price 11 = .ok (.invokevirtual 69, 3) := by decide +kernel
theorem dX10_price_14 : decode cX10_price 14 = .ok (.bipush 6, 2) := by decide +kernel
theorem dX10_price_16 : decode cX10_price 16 = .ok (.if_icmp .le 7, 3) := by decide +kernel
theorem dX10_price_19 : decode cX10_price 19 = .ok (.iconst 0, 1) := by decide +kernel
theorem dX10_price_20 : decode cX10_price 20 = .ok (.goto 9, 3) := by decide +kernel
theorem dX10_price_23 : decode cX10_price 23 = .ok (.aload_n 0, 1) := by decide +kernel
theorem dX10_price_24 : decode cX10_price 24 = .ok (.iload_n 1, 1) := by decide +kernel
theorem dX10_price_25 : decode cX10_price 25 = .ok (.iconst 1, 1) := by decide +kernel
theorem dX10_price_26 : decode cX10_price 26 = .ok (.invokevirtual 69, 3) := by decide +kernel
theorem dX10_price_29 : decode cX10_price 29 = .ok (.iadd, 1) := by decide +kernel
theorem dX10_price_30 : decode cX10_price 30 = .ok (.ireturn, 1) := by decide +kernel
theorem dX10_burnt_0 : decode cX10_burnt 0 = .ok (.iconst 0, 1) := by decide +kernel
theorem dX10_burnt_1 : decode cX10_burnt 1 = .ok (.istore_n 1, 1) := by decide +kernel
theorem dX10_burnt_2 : decode cX10_burnt 2 = .ok (.iconst 0, 1) := by decide +kernel
theorem dX10_burnt_3 : decode cX10_burnt 3 = .ok (.istore_n 2, 1) := by decide +kernel
theorem dX10_burnt_4 : decode cX10_burnt 4 = .ok (.iload_n 2, 1) := by decide +kernel
theorem dX10_burnt_5 : decode cX10_burnt 5 = .ok (.aload_n 0, 1) := by decide +kernel
theorem dX10_burnt_6 : decode cX10_burnt 6 = .ok (.getfield 7, 3) := by decide +kernel
theorem dX10_burnt_9 : decode cX10_burnt 9 = .ok (.iconst 0, 1) := by decide +kernel
theorem dX10_burnt_10 : decode cX10_burnt 10 = .ok (.iaload, 1) := by decide +kernel
theorem dX10_burnt_11 : decode cX10_burnt 11 = .ok (.if_icmp .ge 25, 3) := by decide +kernel
theorem dX10_burnt_14 : decode cX10_burnt 14 = .ok (.iload_n 1, 1) := by decide +kernel
theorem dX10_burnt_15 : decode cX10_burnt 15 = .ok (.aload_n 0, 1) := by decide +kernel
theorem dX10_burnt_16 : decode cX10_burnt 16 = .ok (.iload_n 2, 1) := by decide +kernel
theorem dX10_burnt_17 : decode cX10_burnt 17 = .ok (.invokevirtual 91, 3) := by decide +kernel
theorem dX10_burnt_20 : decode cX10_burnt 20 = .ok (.ifCond .eq 7, 3) := by decide +kernel
theorem dX10_burnt_23 : decode cX10_burnt 23 = .ok (.iconst 1, 1) := by decide +kernel
theorem dX10_burnt_24 : decode cX10_burnt 24 = .ok (.goto 4, 3) := by decide +kernel
theorem dX10_burnt_27 : decode cX10_burnt 27 = .ok (.iconst 0, 1) := by decide +kernel
theorem dX10_burnt_28 : decode cX10_burnt 28 = .ok (.iadd, 1) := by decide +kernel
theorem dX10_burnt_29 : decode cX10_burnt 29 = .ok (.istore_n 1, 1) := by decide +kernel
theorem dX10_burnt_30 : decode cX10_burnt 30 = .ok (.iinc 2 1, 3) := by decide +kernel
theorem dX10_burnt_33 : decode cX10_burnt 33 = .ok (.goto (-29), 3) := by decide +kernel
theorem dX10_burnt_36 : decode cX10_burnt 36 = .ok (.iload_n 1, 1) := by decide +kernel
theorem dX10_burnt_37 : decode cX10_burnt 37 = .ok (.ireturn, 1) := by decide +kernel
theorem dX10_smokes_0 : decode cX10_smokes 0 = .ok (.aload_n 0, 1) := by decide +kernel
theorem dX10_smokes_1 : decode cX10_smokes 1 = .ok (.iload_n 1, 1) := by decide +kernel
theorem dX10_smokes_2 : decode cX10_smokes 2 = .ok (.iconst 5, 1) := by decide +kernel
theorem dX10_smokes_3 : decode cX10_smokes 3 = .ok (.invokevirtual 69, 3) := by decide +kernel
theorem dX10_smokes_6 : decode cX10_smokes 6 = .ok (.istore_n 2, 1) := by decide +kernel
theorem dX10_smokes_7 : decode cX10_smokes 7 = .ok (.aload_n 0, 1) := by decide +kernel
theorem dX10_smokes_8 : decode cX10_smokes 8 = .ok (.aload_n 0, 1) := by decide +kernel
theorem dX10_smokes_9 : decode cX10_smokes 9 = .ok (.iload_n 1, 1) := by decide +kernel
theorem dX10_smokes_10 : decode cX10_smokes 10 = .ok (.iconst 3, 1) := by decide +kernel
theorem dX10_smokes_11 : decode cX10_smokes 11 = .ok (.invokevirtual 69, 3) := by decide +kernel
theorem dX10_smokes_14 : decode cX10_smokes 14 = .ok (.invokevirtual 97, 3) := by decide +kernel
theorem dX10_smokes_17 : decode cX10_smokes 17 = .ok (.istore_n 3, 1) := by decide +kernel
theorem dX10_smokes_18 : decode cX10_smokes 18 = .ok (.iload_n 3, 1) := by decide +kernel
theorem dX10_smokes_19 : decode cX10_smokes 19 = .ok (.aload_n 0, 1) := by decide +kernel
theorem dX10_smokes_20 : decode cX10_smokes 20 = .ok (.getfield 7, 3) := by decide +kernel
theorem dX10_smokes_23 : decode cX10_smokes 23 = .ok (.iconst 2, 1) := by decide +kernel
theorem dX10_smokes_24 : decode cX10_smokes 24 = .ok (.iaload, 1) := by decide +kernel
theorem dX10_smokes_25 : decode cX10_smokes 25 = .ok (.iadd, 1) := by decide +kernel
theorem dX10_smokes_26 : decode cX10_smokes 26 = .ok (.istore 4, 2) := by decide +kernel
theorem dX10_smokes_28 : decode cX10_smokes 28 = .ok (.aload_n 0, 1) := by decide +kernel
theorem dX10_smokes_29 : decode cX10_smokes 29 = .ok (.iload_n 1, 1) := by decide +kernel
theorem dX10_smokes_30 : decode cX10_smokes 30 = .ok (.bipush 7, 2) := by decide +kernel
theorem dX10_smokes_32 : decode cX10_smokes 32 = .ok (.iload_n 2, 1) := by decide +kernel
theorem dX10_smokes_33 : decode cX10_smokes 33 = .ok (.iadd, 1) := by decide +kernel
theorem dX10_smokes_34 : decode cX10_smokes 34 = .ok (.aload_n 0, 1) := by decide +kernel
theorem dX10_smokes_35 : decode cX10_smokes 35 = .ok (.iload_n 1, 1) := by decide +kernel
theorem dX10_smokes_36 : decode cX10_smokes 36 = .ok (.bipush 7, 2) := by decide +kernel
theorem dX10_smokes_38 : decode cX10_smokes 38 = .ok (.iload_n 2, 1) := by decide +kernel
theorem dX10_smokes_39 : decode cX10_smokes 39 = .ok (.iadd, 1) := by decide +kernel
theorem dX10_smokes_40 : decode cX10_smokes 40 = .ok (.invokevirtual 69, 3) := by decide +kernel
theorem dX10_smokes_43 : decode cX10_smokes 43 = .ok (.aload_n 0, 1) := by decide +kernel
theorem dX10_smokes_44 : decode cX10_smokes 44 = .ok (.iload_n 1, 1) := by decide +kernel
theorem dX10_smokes_45 : decode cX10_smokes 45 = .ok (.invokevirtual 100, 3) := by decide +kernel
theorem dX10_smokes_48 : decode cX10_smokes 48 = .ok (.ifCond .eq 10, 3) := by decide +kernel
theorem dX10_smokes_51 : decode cX10_smokes 51 = .ok (.iload 4, 2) := by decide +kernel
theorem dX10_smokes_53 : decode cX10_smokes 53 = .ok (.iconst 2, 1) := by decide +kernel
theorem dX10_smokes_54 : decode cX10_smokes 54 = .ok (.idiv, 1) := by decide +kernel
theorem dX10_smokes_55 : decode cX10_smokes 55 = .ok (.goto 5, 3) := by decide +kernel
theorem dX10_smokes_58 : decode cX10_smokes 58 = .ok (.iload 4, 2) := by decide +kernel
theorem dX10_smokes_60 : decode cX10_smokes 60 = .ok (.iadd, 1) := by decide +kernel
theorem dX10_smokes_61 : decode cX10_smokes 61 = .ok (.bipush 40, 2) := by decide +kernel
theorem dX10_smokes_63 : decode cX10_smokes 63 = .ok (.invokestatic 80, 3) := by decide +kernel
theorem dX10_smokes_66 : decode cX10_smokes 66 = .ok (.invokevirtual 103, 3) := by decide +kernel
theorem dX10_smokes_69 : decode cX10_smokes 69 = .ok (.iload_n 3, 1) := by decide +kernel
theorem dX10_smokes_70 : decode cX10_smokes 70 = .ok (.aload_n 0, 1) := by decide +kernel
theorem dX10_smokes_71 : decode cX10_smokes 71 = .ok (.iload_n 1, 1) := by decide +kernel
theorem dX10_smokes_72 : decode cX10_smokes 72 = .ok (.invokevirtual 107, 3) := by decide +kernel
theorem dX10_smokes_75 : decode cX10_smokes 75 = .ok (.if_icmp .le 44, 3) := by decide +kernel
theorem dX10_smokes_78 : decode cX10_smokes 78 = .ok (.aload_n 0, 1) := by decide +kernel
theorem dX10_smokes_79 : decode cX10_smokes 79 = .ok (.iload_n 1, 1) := by decide +kernel
theorem dX10_smokes_80 : decode cX10_smokes 80 = .ok (.bipush 6, 2) := by decide +kernel
theorem dX10_smokes_82 : decode cX10_smokes 82 = .ok (.invokevirtual 69, 3) := by decide +kernel
theorem dX10_smokes_85 : decode cX10_smokes 85 = .ok (.ifCond .ne 34, 3) := by decide +kernel
theorem dX10_smokes_88 : decode cX10_smokes 88 = .ok (.aload_n 0, 1) := by decide +kernel
theorem dX10_smokes_89 : decode cX10_smokes 89 = .ok (.iload_n 1, 1) := by decide +kernel
theorem dX10_smokes_90 : decode cX10_smokes 90 = .ok (.bipush 9, 2) := by decide +kernel
theorem dX10_smokes_92 : decode cX10_smokes 92 = .ok (.iload_n 2, 1) := by decide +kernel
theorem dX10_smokes_93 : decode cX10_smokes 93 = .ok (.iadd, 1) := by decide +kernel
theorem dX10_smokes_94 : decode cX10_smokes 94 = .ok (.aload_n 0, 1) := by decide +kernel
theorem dX10_smokes_95 : decode cX10_smokes 95 = .ok (.iload_n 1, 1) := by decide +kernel
theorem dX10_smokes_96 : decode cX10_smokes 96 = .ok (.bipush 9, 2) := by decide +kernel
theorem dX10_smokes_98 : decode cX10_smokes 98 = .ok (.iload_n 2, 1) := by decide +kernel
theorem dX10_smokes_99 : decode cX10_smokes 99 = .ok (.iadd, 1) := by decide +kernel
theorem dX10_smokes_100 : decode cX10_smokes 100 = .ok (.invokevirtual 69, 3) := by decide +kernel
theorem dX10_smokes_103 : decode cX10_smokes 103 = .ok (.iload_n 3, 1) := by decide +kernel
theorem dX10_smokes_104 : decode cX10_smokes 104 = .ok (.iadd, 1) := by decide +kernel
theorem dX10_smokes_105 : decode cX10_smokes 105 = .ok (.aload_n 0, 1) := by decide +kernel
theorem dX10_smokes_106 : decode cX10_smokes 106 = .ok (.iload_n 1, 1) := by decide +kernel
theorem dX10_smokes_107 : decode cX10_smokes 107 = .ok (.invokevirtual 107, 3) := by decide +kernel
theorem dX10_smokes_110 : decode cX10_smokes 110 = .ok (.isub, 1) := by decide +kernel
theorem dX10_smokes_111 : decode cX10_smokes 111 = .ok (.bipush 9, 2) := by decide +kernel
theorem dX10_smokes_113 : decode cX10_smokes 113 = .ok (.invokestatic 80, 3) := by decide +kernel
theorem dX10_smokes_116 : decode cX10_smokes 116 = .ok (.invokevirtual 103, 3) := by decide +kernel
theorem dX10_smokes_119 : decode cX10_smokes 119 = .ok (.return_, 1) := by decide +kernel
theorem dX10_hour_0 : decode cX10_hour 0 = .ok (.iconst 0, 1) := by decide +kernel
theorem dX10_hour_1 : decode cX10_hour 1 = .ok (.istore_n 1, 1) := by decide +kernel
theorem dX10_hour_2 : decode cX10_hour 2 = .ok (.iload_n 1, 1) := by decide +kernel
theorem dX10_hour_3 : decode cX10_hour 3 = .ok (.aload_n 0, 1) := by decide +kernel
theorem dX10_hour_4 : decode cX10_hour 4 = .ok (.getfield 7, 3) := by decide +kernel
theorem dX10_hour_7 : decode cX10_hour 7 = .ok (.iconst 0, 1) := by decide +kernel
theorem dX10_hour_8 : decode cX10_hour 8 = .ok (.iaload, 1) := by decide +kernel
theorem dX10_hour_9 : decode cX10_hour 9 = .ok (.if_icmp .ge 39, 3) := by decide +kernel
theorem dX10_hour_12 : decode cX10_hour 12 = .ok (.aload_n 0, 1) := by decide +kernel
theorem dX10_hour_13 : decode cX10_hour 13 = .ok (.iload_n 1, 1) := by decide +kernel
theorem dX10_hour_14 : decode cX10_hour 14 = .ok (.invokevirtual 73, 3) := by decide +kernel
theorem dX10_hour_17 : decode cX10_hour 17 = .ok (.ifCond .eq 17, 3) := by decide +kernel
theorem dX10_hour_20 : decode cX10_hour 20 = .ok (.aload_n 0, 1) := by decide +kernel
theorem dX10_hour_21 : decode cX10_hour 21 = .ok (.getfield 7, 3) := by decide +kernel
theorem dX10_hour_24 : decode cX10_hour 24 = .ok (.iconst 1, 1) := by decide +kernel
theorem dX10_hour_25 : decode cX10_hour 25 = .ok (.iaload, 1) := by decide +kernel
theorem dX10_hour_26 : decode cX10_hour 26 = .ok (.ifCond .le 8, 3) := by decide +kernel
theorem dX10_hour_29 : decode cX10_hour 29 = .ok (.aload_n 0, 1) := by decide +kernel
theorem dX10_hour_30 : decode cX10_hour 30 = .ok (.iload_n 1, 1) := by decide +kernel
theorem dX10_hour_31 : decode cX10_hour 31 = .ok (.invokevirtual 110, 3) := by decide +kernel
theorem dX10_hour_34 : decode cX10_hour 34 = .ok (.aload_n 0, 1) := by decide +kernel
theorem dX10_hour_35 : decode cX10_hour 35 = .ok (.iload_n 1, 1) := by decide +kernel
theorem dX10_hour_36 : decode cX10_hour 36 = .ok (.bipush 6, 2) := by decide +kernel
theorem dX10_hour_38 : decode cX10_hour 38 = .ok (.iconst 0, 1) := by decide +kernel
theorem dX10_hour_39 : decode cX10_hour 39 = .ok (.invokevirtual 103, 3) := by decide +kernel
theorem dX10_hour_42 : decode cX10_hour 42 = .ok (.iinc 1 1, 3) := by decide +kernel
theorem dX10_hour_45 : decode cX10_hour 45 = .ok (.goto (-43), 3) := by decide +kernel
theorem dX10_hour_48 : decode cX10_hour 48 = .ok (.aload_n 0, 1) := by decide +kernel
theorem dX10_hour_49 : decode cX10_hour 49 = .ok (.getfield 7, 3) := by decide +kernel
theorem dX10_hour_52 : decode cX10_hour 52 = .ok (.iconst 1, 1) := by decide +kernel
theorem dX10_hour_53 : decode cX10_hour 53 = .ok (.iaload, 1) := by decide +kernel
theorem dX10_hour_54 : decode cX10_hour 54 = .ok (.ifCond .le 13, 3) := by decide +kernel
theorem dX10_hour_57 : decode cX10_hour 57 = .ok (.aload_n 0, 1) := by decide +kernel
theorem dX10_hour_58 : decode cX10_hour 58 = .ok (.getfield 7, 3) := by decide +kernel
theorem dX10_hour_61 : decode cX10_hour 61 = .ok (.iconst 1, 1) := by decide +kernel
theorem dX10_hour_62 : decode cX10_hour 62 = .ok (.dup2, 1) := by decide +kernel
theorem dX10_hour_63 : decode cX10_hour 63 = .ok (.iaload, 1) := by decide +kernel
theorem dX10_hour_64 : decode cX10_hour 64 = .ok (.iconst 1, 1) := by decide +kernel
theorem dX10_hour_65 : decode cX10_hour 65 = .ok (.isub, 1) := by decide +kernel
theorem dX10_hour_66 : decode cX10_hour 66 = .ok (.iastore, 1) := by decide +kernel
theorem dX10_hour_67 : decode cX10_hour 67 = .ok (.aload_n 0, 1) := by decide +kernel
theorem dX10_hour_68 : decode cX10_hour 68 = .ok (.getfield 7, 3) := by decide +kernel
theorem dX10_hour_71 : decode cX10_hour 71 = .ok (.iconst 3, 1) := by decide +kernel
theorem dX10_hour_72 : decode cX10_hour 72 = .ok (.dup2, 1) := by decide +kernel
theorem dX10_hour_73 : decode cX10_hour 73 = .ok (.iaload, 1) := by decide +kernel
theorem dX10_hour_74 : decode cX10_hour 74 = .ok (.iconst 1, 1) := by decide +kernel
theorem dX10_hour_75 : decode cX10_hour 75 = .ok (.iadd, 1) := by decide +kernel
theorem dX10_hour_76 : decode cX10_hour 76 = .ok (.iastore, 1) := by decide +kernel
theorem dX10_hour_77 : decode cX10_hour 77 = .ok (.return_, 1) := by decide +kernel
theorem dX10_turns_0 : decode cX10_turns 0 = .ok (.aload_n 0, 1) := by decide +kernel
theorem dX10_turns_1 : decode cX10_turns 1 = .ok (.iload_n 1, 1) := by decide +kernel
theorem dX10_turns_2 : decode cX10_turns 2 = .ok (.iconst 5, 1) := by decide +kernel
theorem dX10_turns_3 : decode cX10_turns 3 = .ok (.iconst 1, 1) := by decide +kernel
theorem dX10_turns_4 : decode cX10_turns 4 = .ok (.aload_n 0, 1) := by decide +kernel
theorem dX10_turns_5 : decode cX10_turns 5 = .ok (.iload_n 1, 1) := by decide +kernel
theorem dX10_turns_6 : decode cX10_turns 6 = .ok (.iconst 5, 1) := by decide +kernel
theorem dX10_turns_7 : decode cX10_turns 7 = .ok (.invokevirtual 69, 3) := by decide +kernel
theorem dX10_turns_10 : decode cX10_turns 10 = .ok (.isub, 1) := by decide +kernel
theorem dX10_turns_11 : decode cX10_turns 11 = .ok (.invokevirtual 103, 3) := by decide +kernel
theorem dX10_turns_14 : decode cX10_turns 14 = .ok (.aload_n 0, 1) := by decide +kernel
theorem dX10_turns_15 : decode cX10_turns 15 = .ok (.iload_n 1, 1) := by decide +kernel
theorem dX10_turns_16 : decode cX10_turns 16 = .ok (.bipush 6, 2) := by decide +kernel
theorem dX10_turns_18 : decode cX10_turns 18 = .ok (.iconst 1, 1) := by decide +kernel
theorem dX10_turns_19 : decode cX10_turns 19 = .ok (.invokevirtual 103, 3) := by decide +kernel
theorem dX10_turns_22 : decode cX10_turns 22 = .ok (.return_, 1) := by decide +kernel
theorem dX10_fish_0 : decode cX10_fish 0 = .ok (.iload_n 1, 1) := by decide +kernel
theorem dX10_fish_1 : decode cX10_fish 1 = .ok (.iconst 1, 1) := by decide +kernel
theorem dX10_fish_2 : decode cX10_fish 2 = .ok (.bipush 9, 2) := by decide +kernel
theorem dX10_fish_4 : decode cX10_fish 4 = .ok (.invokestatic 65, 3) := by decide +kernel
theorem dX10_fish_7 : decode cX10_fish 7 = .ok (.ifCond .ne 10, 3) := by decide +kernel
theorem dX10_fish_10 : decode cX10_fish 10 = .ok (.aload_n 0, 1) := by decide +kernel
theorem dX10_fish_11 : decode cX10_fish 11 = .ok (.iconst 1, 1) := by decide +kernel
theorem dX10_fish_12 : decode cX10_fish 12 = .ok (.iconst 0, 1) := by decide +kernel
theorem dX10_fish_13 : decode cX10_fish 13 = .ok (.invokevirtual 114, 3) := by decide +kernel
theorem dX10_fish_16 : decode cX10_fish 16 = .ok (.ireturn, 1) := by decide +kernel
theorem dX10_fish_17 : decode cX10_fish 17 = .ok (.aload_n 0, 1) := by decide +kernel
theorem dX10_fish_18 : decode cX10_fish 18 = .ok (.getfield 7, 3) := by decide +kernel
theorem dX10_fish_21 : decode cX10_fish 21 = .ok (.iconst 0, 1) := by decide +kernel
theorem dX10_fish_22 : decode cX10_fish 22 = .ok (.iaload, 1) := by decide +kernel
theorem dX10_fish_23 : decode cX10_fish 23 = .ok (.bipush 12, 2) := by decide +kernel
theorem dX10_fish_25 : decode cX10_fish 25 = .ok (.if_icmp .ne 11, 3) := by decide +kernel
theorem dX10_fish_28 : decode cX10_fish 28 = .ok (.aload_n 0, 1) := by decide +kernel
theorem dX10_fish_29 : decode cX10_fish 29 = .ok (.iconst 2, 1) := by decide +kernel
theorem dX10_fish_30 : decode cX10_fish 30 = .ok (.bipush 12, 2) := by decide +kernel
theorem dX10_fish_32 : decode cX10_fish 32 = .ok (.invokevirtual 114, 3) := by decide +kernel
theorem dX10_fish_35 : decode cX10_fish 35 = .ok (.ireturn, 1) := by decide +kernel
theorem dX10_fish_36 : decode cX10_fish 36 = .ok (.aload_n 0, 1) := by decide +kernel
theorem dX10_fish_37 : decode cX10_fish 37 = .ok (.aload_n 0, 1) := by decide +kernel
theorem dX10_fish_38 : decode cX10_fish 38 = .ok (.getfield 7, 3) := by decide +kernel
theorem dX10_fish_41 : decode cX10_fish 41 = .ok (.invokevirtual 117, 3) := by decide +kernel
theorem dX10_fish_44 : decode cX10_fish 44 = .ok (.aload_n 0, 1) := by decide +kernel
theorem dX10_fish_45 : decode cX10_fish 45 = .ok (.getfield 7, 3) := by decide +kernel
theorem dX10_fish_48 : decode cX10_fish 48 = .ok (.iconst 0, 1) := by decide +kernel
theorem dX10_fish_49 : decode cX10_fish 49 = .ok (.iaload, 1) := by decide +kernel
theorem dX10_fish_50 : decode cX10_fish 50 = .ok (.istore_n 2, 1) := by decide +kernel
theorem dX10_fish_51 : decode cX10_fish 51 = .ok (.aload_n 0, 1) := by decide +kernel
theorem dX10_fish_52 : decode cX10_fish 52 = .ok (.getfield 7, 3) := by decide +kernel
theorem dX10_fish_55 : decode cX10_fish 55 = .ok (.iconst 0, 1) := by decide +kernel
theorem dX10_fish_56 : decode cX10_fish 56 = .ok (.dup2, 1) := by decide +kernel
theorem dX10_fish_57 : decode cX10_fish 57 = .ok (.iaload, 1) := by decide +kernel
theorem dX10_fish_58 : decode cX10_fish 58 = .ok (.iconst 1, 1) := by decide +kernel
theorem dX10_fish_59 : decode cX10_fish 59 = .ok (.iadd, 1) := by decide +kernel
theorem dX10_fish_60 : decode cX10_fish 60 = .ok (.iastore, 1) := by decide +kernel
theorem dX10_fish_61 : decode cX10_fish 61 = .ok (.iconst 0, 1) := by decide +kernel
theorem dX10_fish_62 : decode cX10_fish 62 = .ok (.istore_n 3, 1) := by decide +kernel
theorem dX10_fish_63 : decode cX10_fish 63 = .ok (.iload_n 3, 1) := by decide +kernel
theorem dX10_fish_64 : decode cX10_fish 64 = .ok (.bipush 11, 2) := by decide +kernel
theorem dX10_fish_66 : decode cX10_fish 66 = .ok (.if_icmp .ge 16, 3) := by decide +kernel
theorem dX10_fish_69 : decode cX10_fish 69 = .ok (.aload_n 0, 1) := by decide +kernel
theorem dX10_fish_70 : decode cX10_fish 70 = .ok (.iload_n 2, 1) := by decide +kernel
theorem dX10_fish_71 : decode cX10_fish 71 = .ok (.iload_n 3, 1) := by decide +kernel
theorem dX10_fish_72 : decode cX10_fish 72 = .ok (.iconst 0, 1) := by decide +kernel
theorem dX10_fish_73 : decode cX10_fish 73 = .ok (.invokevirtual 103, 3) := by decide +kernel
theorem dX10_fish_76 : decode cX10_fish 76 = .ok (.iinc 3 1, 3) := by decide +kernel
theorem dX10_fish_79 : decode cX10_fish 79 = .ok (.goto (-16), 3) := by decide +kernel
theorem dX10_fish_82 : decode cX10_fish 82 = .ok (.aload_n 0, 1) := by decide +kernel
theorem dX10_fish_83 : decode cX10_fish 83 = .ok (.iload_n 2, 1) := by decide +kernel
theorem dX10_fish_84 : decode cX10_fish 84 = .ok (.iconst 0, 1) := by decide +kernel
theorem dX10_fish_85 : decode cX10_fish 85 = .ok (.iload_n 1, 1) := by decide +kernel
theorem dX10_fish_86 : decode cX10_fish 86 = .ok (.invokevirtual 103, 3) := by decide +kernel
theorem dX10_fish_89 : decode cX10_fish 89 = .ok (.aload_n 0, 1) := by decide +kernel
theorem dX10_fish_90 : decode cX10_fish 90 = .ok (.iload_n 2, 1) := by decide +kernel
theorem dX10_fish_91 : decode cX10_fish 91 = .ok (.iconst 3, 1) := by decide +kernel
theorem dX10_fish_92 : decode cX10_fish 92 = .ok (.iconst (-1), 1) := by decide +kernel
theorem dX10_fish_93 : decode cX10_fish 93 = .ok (.invokevirtual 103, 3) := by decide +kernel
theorem dX10_fish_96 : decode cX10_fish 96 = .ok (.aload_n 0, 1) := by decide +kernel
theorem dX10_fish_97 : decode cX10_fish 97 = .ok (.iload_n 2, 1) := by decide +kernel
theorem dX10_fish_98 : decode cX10_fish 98 = .ok (.iconst 4, 1) := by decide +kernel
theorem dX10_fish_99 : decode cX10_fish 99 = .ok (.iconst (-1), 1) := by decide +kernel
theorem dX10_fish_100 : decode cX10_fish 100 = .ok (.invokevirtual 103, 3) := by decide +kernel
theorem dX10_fish_103 : decode cX10_fish 103 = .ok (.iload_n 2, 1) := by decide +kernel
theorem dX10_fish_104 : decode cX10_fish 104 = .ok (.ireturn, 1) := by decide +kernel
theorem dX10_brine_0 : decode cX10_brine 0 = .ok (.aload_n 0, 1) := by decide +kernel
theorem dX10_brine_1 : decode cX10_brine 1 = .ok (.iload_n 1, 1) := by decide +kernel
theorem dX10_brine_2 : decode cX10_brine 2 = .ok (.invokevirtual 121, 3) := by decide +kernel
theorem dX10_brine_5 : decode cX10_brine 5 = .ok (.ifCond .ne 15, 3) := by decide +kernel
theorem dX10_brine_8 : decode cX10_brine 8 = .ok (.aload_n 0, 1) := by decide +kernel
theorem dX10_brine_9 : decode cX10_brine 9 = .ok (.iconst 3, 1) := by decide +kernel
theorem dX10_brine_10 : decode cX10_brine 10 = .ok (.aload_n 0, 1) := by decide +kernel
theorem dX10_brine_11 : decode cX10_brine 11 = .ok (.getfield 7, 3) := by decide +kernel
theorem dX10_brine_14 : decode cX10_brine 14 = .ok (.iconst 0, 1) := by decide +kernel
theorem dX10_brine_15 : decode cX10_brine 15 = .ok (.iaload, 1) := by decide +kernel
theorem dX10_brine_16 : decode cX10_brine 16 = .ok (.invokevirtual 114, 3) := by decide +kernel
theorem dX10_brine_19 : decode cX10_brine 19 = .ok (.ireturn, 1) := by decide +kernel
theorem dX10_brine_20 : decode cX10_brine 20 = .ok (.aload_n 0, 1) := by decide +kernel
theorem dX10_brine_21 : decode cX10_brine 21 = .ok (.iload_n 1, 1) := by decide +kernel
theorem dX10_brine_22 : decode cX10_brine 22 = .ok (.iconst 2, 1) := by decide +kernel
theorem dX10_brine_23 : decode cX10_brine 23 = .ok (.invokevirtual 69, 3) := by decide +kernel
theorem dX10_brine_26 : decode cX10_brine 26 = .ok (.ifCond .le 15, 3) := by decide +kernel
theorem dX10_brine_29 : decode cX10_brine 29 = .ok (.aload_n 0, 1) := by decide +kernel
theorem dX10_brine_30 : decode cX10_brine 30 = .ok (.iconst 4, 1) := by decide +kernel
theorem dX10_brine_31 : decode cX10_brine 31 = .ok (.aload_n 0, 1) := by decide +kernel
theorem dX10_brine_32 : decode cX10_brine 32 = .ok (.iload_n 1, 1) := by decide +kernel
theorem dX10_brine_33 : decode cX10_brine 33 = .ok (.iconst 2, 1) := by decide +kernel
theorem dX10_brine_34 : decode cX10_brine 34 = .ok (.invokevirtual 69, 3) := by decide +kernel
theorem dX10_brine_37 : decode cX10_brine 37 = .ok (.invokevirtual 114, 3) := by decide +kernel
theorem dX10_brine_40 : decode cX10_brine 40 = .ok (.ireturn, 1) := by decide +kernel
theorem dX10_brine_41 : decode cX10_brine 41 = .ok (.aload_n 0, 1) := by decide +kernel
theorem dX10_brine_42 : decode cX10_brine 42 = .ok (.aload_n 0, 1) := by decide +kernel
theorem dX10_brine_43 : decode cX10_brine 43 = .ok (.getfield 7, 3) := by decide +kernel
theorem dX10_brine_46 : decode cX10_brine 46 = .ok (.invokevirtual 117, 3) := by decide +kernel
theorem dX10_brine_49 : decode cX10_brine 49 = .ok (.aload_n 0, 1) := by decide +kernel
theorem dX10_brine_50 : decode cX10_brine 50 = .ok (.iload_n 1, 1) := by decide +kernel
theorem dX10_brine_51 : decode cX10_brine 51 = .ok (.iconst 2, 1) := by decide +kernel
theorem dX10_brine_52 : decode cX10_brine 52 = .ok (.iconst 1, 1) := by decide +kernel
theorem dX10_brine_53 : decode cX10_brine 53 = .ok (.invokevirtual 103, 3) := by decide +kernel
theorem dX10_brine_56 : decode cX10_brine 56 = .ok (.aload_n 0, 1) := by decide +kernel
theorem dX10_brine_57 : decode cX10_brine 57 = .ok (.iconst 1, 1) := by decide +kernel
theorem dX10_brine_58 : decode cX10_brine 58 = .ok (.invokevirtual 124, 3) := by decide +kernel
theorem dX10_brine_61 : decode cX10_brine 61 = .ok (.ireturn, 1) := by decide +kernel
theorem dX10_out_0 : decode cX10_out 0 = .ok (.aload_n 0, 1) := by decide +kernel
theorem dX10_out_1 : decode cX10_out 1 = .ok (.iload_n 1, 1) := by decide +kernel
theorem dX10_out_2 : decode cX10_out 2 = .ok (.invokevirtual 121, 3) := by decide +kernel
theorem dX10_out_5 : decode cX10_out 5 = .ok (.ifCond .ne 15, 3) := by decide +kernel
theorem dX10_out_8 : decode cX10_out 8 = .ok (.aload_n 0, 1) := by decide +kernel
theorem dX10_out_9 : decode cX10_out 9 = .ok (.iconst 3, 1) := by decide +kernel
theorem dX10_out_10 : decode cX10_out 10 = .ok (.aload_n 0, 1) := by decide +kernel
theorem dX10_out_11 : decode cX10_out 11 = .ok (.getfield 7, 3) := by decide +kernel
theorem dX10_out_14 : decode cX10_out 14 = .ok (.iconst 0, 1) := by decide +kernel
theorem dX10_out_15 : decode cX10_out 15 = .ok (.iaload, 1) := by decide +kernel
theorem dX10_out_16 : decode cX10_out 16 = .ok (.invokevirtual 114, 3) := by decide +kernel
theorem dX10_out_19 : decode cX10_out 19 = .ok (.ireturn, 1) := by decide +kernel
theorem dX10_out_20 : decode cX10_out 20 = .ok (.aload_n 0, 1) := by decide +kernel
theorem dX10_out_21 : decode cX10_out 21 = .ok (.iload_n 1, 1) := by decide +kernel
theorem dX10_out_22 : decode cX10_out 22 = .ok (.iconst 2, 1) := by decide +kernel
theorem dX10_out_23 : decode cX10_out 23 = .ok (.invokevirtual 69, 3) := by decide +kernel
theorem dX10_out_26 : decode cX10_out 26 = .ok (.ifCond .ne 10, 3) := by decide +kernel
theorem dX10_out_29 : decode cX10_out 29 = .ok (.aload_n 0, 1) := by decide +kernel
theorem dX10_out_30 : decode cX10_out 30 = .ok (.iconst 5, 1) := by decide +kernel
theorem dX10_out_31 : decode cX10_out 31 = .ok (.iload_n 1, 1) := by decide +kernel
theorem dX10_out_32 : decode cX10_out 32 = .ok (.invokevirtual 114, 3) := by decide +kernel
theorem dX10_out_35 : decode cX10_out 35 = .ok (.ireturn, 1) := by decide +kernel
theorem dX10_out_36 : decode cX10_out 36 = .ok (.aload_n 0, 1) := by decide +kernel
theorem dX10_out_37 : decode cX10_out 37 = .ok (.aload_n 0, 1) := by decide +kernel
theorem dX10_out_38 : decode cX10_out 38 = .ok (.getfield 7, 3) := by decide +kernel
theorem dX10_out_41 : decode cX10_out 41 = .ok (.invokevirtual 117, 3) := by decide +kernel
theorem dX10_out_44 : decode cX10_out 44 = .ok (.aload_n 0, 1) := by decide +kernel
theorem dX10_out_45 : decode cX10_out 45 = .ok (.iload_n 1, 1) := by decide +kernel
theorem dX10_out_46 : decode cX10_out 46 = .ok (.iconst 2, 1) := by decide +kernel
theorem dX10_out_47 : decode cX10_out 47 = .ok (.iconst 0, 1) := by decide +kernel
theorem dX10_out_48 : decode cX10_out 48 = .ok (.invokevirtual 103, 3) := by decide +kernel
theorem dX10_out_51 : decode cX10_out 51 = .ok (.aload_n 0, 1) := by decide +kernel
theorem dX10_out_52 : decode cX10_out 52 = .ok (.iload_n 1, 1) := by decide +kernel
theorem dX10_out_53 : decode cX10_out 53 = .ok (.iconst 3, 1) := by decide +kernel
theorem dX10_out_54 : decode cX10_out 54 = .ok (.iconst (-1), 1) := by decide +kernel
theorem dX10_out_55 : decode cX10_out 55 = .ok (.invokevirtual 103, 3) := by decide +kernel
theorem dX10_out_58 : decode cX10_out 58 = .ok (.aload_n 0, 1) := by decide +kernel
theorem dX10_out_59 : decode cX10_out 59 = .ok (.iload_n 1, 1) := by decide +kernel
theorem dX10_out_60 : decode cX10_out 60 = .ok (.iconst 4, 1) := by decide +kernel
theorem dX10_out_61 : decode cX10_out 61 = .ok (.iconst (-1), 1) := by decide +kernel
theorem dX10_out_62 : decode cX10_out 62 = .ok (.invokevirtual 103, 3) := by decide +kernel
theorem dX10_out_65 : decode cX10_out 65 = .ok (.aload_n 0, 1) := by decide +kernel
theorem dX10_out_66 : decode cX10_out 66 = .ok (.iload_n 1, 1) := by decide +kernel
theorem dX10_out_67 : decode cX10_out 67 = .ok (.bipush 6, 2) := by decide +kernel
theorem dX10_out_69 : decode cX10_out 69 = .ok (.iconst 0, 1) := by decide +kernel
theorem dX10_out_70 : decode cX10_out 70 = .ok (.invokevirtual 103, 3) := by decide +kernel
theorem dX10_out_73 : decode cX10_out 73 = .ok (.aload_n 0, 1) := by decide +kernel
theorem dX10_out_74 : decode cX10_out 74 = .ok (.iload_n 1, 1) := by decide +kernel
theorem dX10_out_75 : decode cX10_out 75 = .ok (.iconst 1, 1) := by decide +kernel
theorem dX10_out_76 : decode cX10_out 76 = .ok (.invokevirtual 69, 3) := by decide +kernel
theorem dX10_out_79 : decode cX10_out 79 = .ok (.ireturn, 1) := by decide +kernel
theorem dX10_isHook_0 : decode cX10_isHook 0 = .ok (.iload_n 0, 1) := by decide +kernel
theorem dX10_isHook_1 : decode cX10_isHook 1 = .ok (.iconst 0, 1) := by decide +kernel
theorem dX10_isHook_2 : decode cX10_isHook 2 = .ok (.iconst 3, 1) := by decide +kernel
theorem dX10_isHook_3 : decode cX10_isHook 3 = .ok (.invokestatic 65, 3) := by decide +kernel
theorem dX10_isHook_6 : decode cX10_isHook 6 = .ok (.ifCond .eq 17, 3) := by decide +kernel
theorem dX10_isHook_9 : decode cX10_isHook 9 = .ok (.iload_n 1, 1) := by decide +kernel
theorem dX10_isHook_10 : decode cX10_isHook 10 = .ok (.iconst 0, 1) := by decide +kernel
theorem dX10_isHook_11 : decode cX10_isHook 11 = .ok (.bipush 9, 2) := by decide +kernel
theorem dX10_isHook_13 : decode cX10_isHook 13 = .ok (.invokestatic 65, 3) := by decide +kernel
theorem dX10_isHook_16 : decode cX10_isHook 16 = .ok (.ifCond .eq 7, 3) := by decide +kernel
theorem dX10_isHook_19 : decode cX10_isHook 19 = .ok (.iconst 1, 1) := by decide +kernel
theorem dX10_isHook_20 : decode cX10_isHook 20 = .ok (.goto 4, 3) := by decide +kernel
theorem dX10_isHook_23 : decode cX10_isHook 23 = .ok (.iconst 0, 1) := by decide +kernel
theorem dX10_isHook_24 : decode cX10_isHook 24 = .ok (.ireturn, 1) := by decide +kernel
theorem dX10_hang_0 : decode cX10_hang 0 = .ok (.iload_n 2, 1) := by decide +kernel
theorem dX10_hang_1 : decode cX10_hang 1 = .ok (.iload_n 3, 1) := by decide +kernel
theorem dX10_hang_2 : decode cX10_hang 2 = .ok (.invokestatic 127, 3) := by decide +kernel
theorem dX10_hang_5 : decode cX10_hang 5 = .ok (.ifCond .ne 10, 3) := by decide +kernel
theorem dX10_hang_8 : decode cX10_hang 8 = .ok (.aload_n 0, 1) := by decide +kernel
theorem dX10_hang_9 : decode cX10_hang 9 = .ok (.iconst 1, 1) := by decide +kernel
theorem dX10_hang_10 : decode cX10_hang 10 = .ok (.iconst 0, 1) := by decide +kernel
theorem dX10_hang_11 : decode cX10_hang 11 = .ok (.invokevirtual 114, 3) := by decide +kernel
theorem dX10_hang_14 : decode cX10_hang 14 = .ok (.ireturn, 1) := by decide +kernel
theorem dX10_hang_15 : decode cX10_hang 15 = .ok (.aload_n 0, 1) := by decide +kernel
theorem dX10_hang_16 : decode cX10_hang 16 = .ok (.iload_n 1, 1) := by decide +kernel
theorem dX10_hang_17 : decode cX10_hang 17 = .ok (.invokevirtual 121, 3) := by decide +kernel
theorem dX10_hang_20 : decode cX10_hang 20 = .ok (.ifCond .ne 15, 3) := by decide +kernel
theorem dX10_hang_23 : decode cX10_hang 23 = .ok (.aload_n 0, 1) := by decide +kernel
theorem dX10_hang_24 : decode cX10_hang 24 = .ok (.iconst 3, 1) := by decide +kernel
theorem dX10_hang_25 : decode cX10_hang 25 = .ok (.aload_n 0, 1) := by decide +kernel
theorem dX10_hang_26 : decode cX10_hang 26 = .ok (.getfield 7, 3) := by decide +kernel
theorem dX10_hang_29 : decode cX10_hang 29 = .ok (.iconst 0, 1) := by decide +kernel
theorem dX10_hang_30 : decode cX10_hang 30 = .ok (.iaload, 1) := by decide +kernel
theorem dX10_hang_31 : decode cX10_hang 31 = .ok (.invokevirtual 114, 3) := by decide +kernel
theorem dX10_hang_34 : decode cX10_hang 34 = .ok (.ireturn, 1) := by decide +kernel
theorem dX10_hang_35 : decode cX10_hang 35 = .ok (.aload_n 0, 1) := by decide +kernel
theorem dX10_hang_36 : decode cX10_hang 36 = .ok (.iload_n 1, 1) := by decide +kernel
theorem dX10_hang_37 : decode cX10_hang 37 = .ok (.iconst 2, 1) := by decide +kernel
theorem dX10_hang_38 : decode cX10_hang 38 = .ok (.invokevirtual 69, 3) := by decide +kernel
theorem dX10_hang_41 : decode cX10_hang 41 = .ok (.ifCond .le 15, 3) := by decide +kernel
theorem dX10_hang_44 : decode cX10_hang 44 = .ok (.aload_n 0, 1) := by decide +kernel
theorem dX10_hang_45 : decode cX10_hang 45 = .ok (.iconst 4, 1) := by decide +kernel
theorem dX10_hang_46 : decode cX10_hang 46 = .ok (.aload_n 0, 1) := by decide +kernel
theorem dX10_hang_47 : decode cX10_hang 47 = .ok (.iload_n 1, 1) := by decide +kernel
theorem dX10_hang_48 : decode cX10_hang 48 = .ok (.iconst 2, 1) := by decide +kernel
theorem dX10_hang_49 : decode cX10_hang 49 = .ok (.invokevirtual 69, 3) := by decide +kernel
theorem dX10_hang_52 : decode cX10_hang 52 = .ok (.invokevirtual 114, 3) := by decide +kernel
theorem dX10_hang_55 : decode cX10_hang 55 = .ok (.ireturn, 1) := by decide +kernel
theorem dX10_hang_56 : decode cX10_hang 56 = .ok (.aload_n 0, 1) := by decide +kernel
theorem dX10_hang_57 : decode cX10_hang 57 = .ok (.iload_n 2, 1) := by decide +kernel
theorem dX10_hang_58 : decode cX10_hang 58 = .ok (.iload_n 3, 1) := by decide +kernel
theorem dX10_hang_59 : decode cX10_hang 59 = .ok (.invokevirtual 131, 3) := by decide +kernel
theorem dX10_hang_62 : decode cX10_hang 62 = .ok (.ifCond .lt 16, 3) := by decide +kernel
theorem dX10_hang_65 : decode cX10_hang 65 = .ok (.aload_n 0, 1) := by decide +kernel
theorem dX10_hang_66 : decode cX10_hang 66 = .ok (.bipush 6, 2) := by decide +kernel
theorem dX10_hang_68 : decode cX10_hang 68 = .ok (.aload_n 0, 1) := by decide +kernel
theorem dX10_hang_69 : decode cX10_hang 69 = .ok (.iload_n 2, 1) := by decide +kernel
theorem dX10_hang_70 : decode cX10_hang 70 = .ok (.iload_n 3, 1) := by decide +kernel
theorem dX10_hang_71 : decode cX10_hang 71 = .ok (.invokevirtual 131, 3) := by decide +kernel
theorem dX10_hang_74 : decode cX10_hang 74 = .ok (.invokevirtual 114, 3) := by decide +kernel
theorem dX10_hang_77 : decode cX10_hang 77 = .ok (.ireturn, 1) := by decide +kernel
theorem dX10_hang_78 : decode cX10_hang 78 = .ok (.aload_n 0, 1) := by decide +kernel
theorem dX10_hang_79 : decode cX10_hang 79 = .ok (.aload_n 0, 1) := by decide +kernel
theorem dX10_hang_80 : decode cX10_hang 80 = .ok (.getfield 7, 3) := by decide +kernel
theorem dX10_hang_83 : decode cX10_hang 83 = .ok (.invokevirtual 117, 3) := by decide +kernel
theorem dX10_hang_86 : decode cX10_hang 86 = .ok (.aload_n 0, 1) := by decide +kernel
theorem dX10_hang_87 : decode cX10_hang 87 = .ok (.iload_n 1, 1) := by decide +kernel
theorem dX10_hang_88 : decode cX10_hang 88 = .ok (.iconst 2, 1) := by decide +kernel
theorem dX10_hang_89 : decode cX10_hang 89 = .ok (.iconst 2, 1) := by decide +kernel
theorem dX10_hang_90 : decode cX10_hang 90 = .ok (.invokevirtual 103, 3) := by decide +kernel
theorem dX10_hang_93 : decode cX10_hang 93 = .ok (.aload_n 0, 1) := by decide +kernel
theorem dX10_hang_94 : decode cX10_hang 94 = .ok (.iload_n 1, 1) := by decide +kernel
theorem dX10_hang_95 : decode cX10_hang 95 = .ok (.iconst 3, 1) := by decide +kernel
theorem dX10_hang_96 : decode cX10_hang 96 = .ok (.iload_n 2, 1) := by decide +kernel
theorem dX10_hang_97 : decode cX10_hang 97 = .ok (.invokevirtual 103, 3) := by decide +kernel
theorem dX10_hang_100 : decode cX10_hang 100 = .ok (.aload_n 0, 1) := by decide +kernel
theorem dX10_hang_101 : decode cX10_hang 101 = .ok (.iload_n 1, 1) := by decide +kernel
theorem dX10_hang_102 : decode cX10_hang 102 = .ok (.iconst 4, 1) := by decide +kernel
theorem dX10_hang_103 : decode cX10_hang 103 = .ok (.iload_n 3, 1) := by decide +kernel
theorem dX10_hang_104 : decode cX10_hang 104 = .ok (.invokevirtual 103, 3) := by decide +kernel
theorem dX10_hang_107 : decode cX10_hang 107 = .ok (.aload_n 0, 1) := by decide +kernel
theorem dX10_hang_108 : decode cX10_hang 108 = .ok (.iload_n 2, 1) := by decide +kernel
theorem dX10_hang_109 : decode cX10_hang 109 = .ok (.invokevirtual 134, 3) := by decide +kernel
theorem dX10_hang_112 : decode cX10_hang 112 = .ok (.ireturn, 1) := by decide +kernel
theorem dX10_turn_0 : decode cX10_turn 0 = .ok (.aload_n 0, 1) := by decide +kernel
theorem dX10_turn_1 : decode cX10_turn 1 = .ok (.iload_n 1, 1) := by decide +kernel
theorem dX10_turn_2 : decode cX10_turn 2 = .ok (.invokevirtual 121, 3) := by decide +kernel
theorem dX10_turn_5 : decode cX10_turn 5 = .ok (.ifCond .ne 15, 3) := by decide +kernel
theorem dX10_turn_8 : decode cX10_turn 8 = .ok (.aload_n 0, 1) := by decide +kernel
theorem dX10_turn_9 : decode cX10_turn 9 = .ok (.iconst 3, 1) := by decide +kernel
theorem dX10_turn_10 : decode cX10_turn 10 = .ok (.aload_n 0, 1) := by decide +kernel
theorem dX10_turn_11 : decode cX10_turn 11 = .ok (.getfield 7, 3) := by decide +kernel
theorem dX10_turn_14 : decode cX10_turn 14 = .ok (.iconst 0, 1) := by decide +kernel
theorem dX10_turn_15 : decode cX10_turn 15 = .ok (.iaload, 1) := by decide +kernel
theorem dX10_turn_16 : decode cX10_turn 16 = .ok (.invokevirtual 114, 3) := by decide +kernel
theorem dX10_turn_19 : decode cX10_turn 19 = .ok (.ireturn, 1) := by decide +kernel
theorem dX10_turn_20 : decode cX10_turn 20 = .ok (.aload_n 0, 1) := by decide +kernel
theorem dX10_turn_21 : decode cX10_turn 21 = .ok (.iload_n 1, 1) := by decide +kernel
theorem dX10_turn_22 : decode cX10_turn 22 = .ok (.invokevirtual 73, 3) := by decide +kernel
theorem dX10_turn_25 : decode cX10_turn 25 = .ok (.ifCond .ne 16, 3) := by decide +kernel
theorem dX10_turn_28 : decode cX10_turn 28 = .ok (.aload_n 0, 1) := by decide +kernel
theorem dX10_turn_29 : decode cX10_turn 29 = .ok (.bipush 7, 2) := by decide +kernel
theorem dX10_turn_31 : decode cX10_turn 31 = .ok (.aload_n 0, 1) := by decide +kernel
theorem dX10_turn_32 : decode cX10_turn 32 = .ok (.iload_n 1, 1) := by decide +kernel
theorem dX10_turn_33 : decode cX10_turn 33 = .ok (.iconst 2, 1) := by decide +kernel
theorem dX10_turn_34 : decode cX10_turn 34 = .ok (.invokevirtual 69, 3) := by decide +kernel
theorem dX10_turn_37 : decode cX10_turn 37 = .ok (.invokevirtual 114, 3) := by decide +kernel
theorem dX10_turn_40 : decode cX10_turn 40 = .ok (.ireturn, 1) := by decide +kernel
theorem dX10_turn_41 : decode cX10_turn 41 = .ok (.aload_n 0, 1) := by decide +kernel
theorem dX10_turn_42 : decode cX10_turn 42 = .ok (.aload_n 0, 1) := by decide +kernel
theorem dX10_turn_43 : decode cX10_turn 43 = .ok (.getfield 7, 3) := by decide +kernel
theorem dX10_turn_46 : decode cX10_turn 46 = .ok (.invokevirtual 117, 3) := by decide +kernel
theorem dX10_turn_49 : decode cX10_turn 49 = .ok (.aload_n 0, 1) := by decide +kernel
theorem dX10_turn_50 : decode cX10_turn 50 = .ok (.iload_n 1, 1) := by decide +kernel
theorem dX10_turn_51 : decode cX10_turn 51 = .ok (.invokevirtual 137, 3) := by decide +kernel
theorem dX10_turn_54 : decode cX10_turn 54 = .ok (.aload_n 0, 1) := by decide +kernel
theorem dX10_turn_55 : decode cX10_turn 55 = .ok (.iload_n 1, 1) := by decide +kernel
theorem dX10_turn_56 : decode cX10_turn 56 = .ok (.iconst 5, 1) := by decide +kernel
theorem dX10_turn_57 : decode cX10_turn 57 = .ok (.invokevirtual 69, 3) := by decide +kernel
theorem dX10_turn_60 : decode cX10_turn 60 = .ok (.ireturn, 1) := by decide +kernel
theorem dX10_turnAll_0 : decode cX10_turnAll 0 = .ok (.iload_n 1, 1) := by decide +kernel
theorem dX10_turnAll_1 : decode cX10_turnAll 1 = .ok (.iconst 0, 1) := by decide +kernel
theorem dX10_turnAll_2 : decode cX10_turnAll 2 = .ok (.iconst 3, 1) := by decide +kernel
theorem dX10_turnAll_3 : decode cX10_turnAll 3 = .ok (.invokestatic 65, 3) := by decide +kernel
theorem dX10_turnAll_6 : decode cX10_turnAll 6 = .ok (.ifCond .ne 10, 3) := by decide +kernel
theorem dX10_turnAll_9 : decode cX10_turnAll 9 = .ok (.aload_n 0, 1) := by decide +kernel
theorem dX10_turnAll_10 : decode cX10_turnAll 10 = .ok (.iconst 1, 1) := by decide +kernel
theorem dX10_turnAll_11 : decode cX10_turnAll 11 = .ok (.iconst 0, 1) := by decide +kernel
theorem dX10_turnAll_12 : decode cX10_turnAll 12 = .ok (.invokevirtual 114, 3) := by decide +kernel
theorem dX10_turnAll_15 : decode cX10_turnAll 15 = .ok (.ireturn, 1) := by decide +kernel
theorem dX10_turnAll_16 : decode cX10_turnAll 16 = .ok (.aload_n 0, 1) := by decide +kernel
theorem dX10_turnAll_17 : decode cX10_turnAll 17 = .ok (.iload_n 1, 1) := by decide +kernel
theorem dX10_turnAll_18 : decode cX10_turnAll 18 = .ok (.invokevirtual 134, 3) := by decide +kernel
theorem dX10_turnAll_21 : decode cX10_turnAll 21 = .ok (.istore_n 2, 1) := by decide +kernel
theorem dX10_turnAll_22 : decode cX10_turnAll 22 = .ok (.iload_n 2, 1) := by decide +kernel
theorem dX10_turnAll_23 : decode cX10_turnAll 23 = .ok (.ifCond .ne 11, 3) := by decide +kernel
theorem dX10_turnAll_26 : decode cX10_turnAll 26 = .ok (.aload_n 0, 1) := by decide +kernel
theorem dX10_turnAll_27 : decode cX10_turnAll 27 = .ok (.bipush 8, 2) := by decide +kernel
theorem dX10_turnAll_29 : decode cX10_turnAll 29 = .ok (.iconst 0, 1) := by decide +kernel
theorem dX10_turnAll_30 : decode cX10_turnAll 30 = .ok (.invokevirtual 114, 3) := by decide +kernel
theorem dX10_turnAll_33 : decode cX10_turnAll 33 = .ok (.ireturn, 1) := by decide +kernel
theorem dX10_turnAll_34 : decode cX10_turnAll 34 = .ok (.aload_n 0, 1) := by decide +kernel
theorem dX10_turnAll_35 : decode cX10_turnAll 35 = .ok (.aload_n 0, 1) := by decide +kernel
end
section
theorem dX10_turnAll_36 : decode cX10_turnAll 36 = .ok (.getfield 7, 3) := by decide +kernel
theorem dX10_turnAll_39 : decode cX10_turnAll 39 = .ok (.invokevirtual 117, 3) := by decide +kernel
theorem dX10_turnAll_42 : decode cX10_turnAll 42 = .ok (.iconst 0, 1) := by decide +kernel
theorem dX10_turnAll_43 : decode cX10_turnAll 43 = .ok (.istore_n 3, 1) := by decide +kernel
theorem dX10_turnAll_44 : decode cX10_turnAll 44 = .ok (.iload_n 3, 1) := by decide +kernel
theorem dX10_turnAll_45 : decode cX10_turnAll 45 = .ok (.aload_n 0, 1) := by decide +kernel
theorem dX10_turnAll_46 : decode cX10_turnAll 46 = .ok (.getfield 7, 3) := by decide +kernel
theorem dX10_turnAll_49 : decode cX10_turnAll 49 = .ok (.iconst 0, 1) := by decide +kernel
theorem dX10_turnAll_50 : decode cX10_turnAll 50 = .ok (.iaload, 1) := by decide +kernel
theorem dX10_turnAll_51 : decode cX10_turnAll 51 = .ok (.if_icmp .ge 32, 3) := by decide +kernel
theorem dX10_turnAll_54 : decode cX10_turnAll 54 = .ok (.aload_n 0, 1) := by decide +kernel
theorem dX10_turnAll_55 : decode cX10_turnAll 55 = .ok (.iload_n 3, 1) := by decide +kernel
theorem dX10_turnAll_56 : decode cX10_turnAll 56 = .ok (.invokevirtual 73, 3) := by decide +kernel
theorem dX10_turnAll_59 : decode cX10_turnAll 59 = .ok (.ifCond .eq 18, 3) := by decide +kernel
theorem dX10_turnAll_62 : decode cX10_turnAll 62 = .ok (.aload_n 0, 1) := by decide +kernel
theorem dX10_turnAll_63 : decode cX10_turnAll 63 = .ok (.iload_n 3, 1) := by decide +kernel
theorem dX10_turnAll_64 : decode cX10_turnAll 64 = .ok (.iconst 3, 1) := by decide +kernel
theorem dX10_turnAll_65 : decode cX10_turnAll 65 = .ok (.invokevirtual 69, 3) := by decide +kernel
theorem dX10_turnAll_68 : decode cX10_turnAll 68 = .ok (.iload_n 1, 1) := by decide +kernel
theorem dX10_turnAll_69 : decode cX10_turnAll 69 = .ok (.if_icmp .ne 8, 3) := by decide +kernel
theorem dX10_turnAll_72 : decode cX10_turnAll 72 = .ok (.aload_n 0, 1) := by decide +kernel
theorem dX10_turnAll_73 : decode cX10_turnAll 73 = .ok (.iload_n 3, 1) := by decide +kernel
theorem dX10_turnAll_74 : decode cX10_turnAll 74 = .ok (.invokevirtual 137, 3) := by decide +kernel
theorem dX10_turnAll_77 : decode cX10_turnAll 77 = .ok (.iinc 3 1, 3) := by decide +kernel
theorem dX10_turnAll_80 : decode cX10_turnAll 80 = .ok (.goto (-36), 3) := by decide +kernel
theorem dX10_turnAll_83 : decode cX10_turnAll 83 = .ok (.iload_n 2, 1) := by decide +kernel
theorem dX10_turnAll_84 : decode cX10_turnAll 84 = .ok (.ireturn, 1) := by decide +kernel
theorem dX10_logs_0 : decode cX10_logs 0 = .ok (.iload_n 1, 1) := by decide +kernel
theorem dX10_logs_1 : decode cX10_logs 1 = .ok (.iconst 1, 1) := by decide +kernel
theorem dX10_logs_2 : decode cX10_logs 2 = .ok (.bipush 12, 2) := by decide +kernel
theorem dX10_logs_4 : decode cX10_logs 4 = .ok (.invokestatic 65, 3) := by decide +kernel
theorem dX10_logs_7 : decode cX10_logs 7 = .ok (.ifCond .ne 10, 3) := by decide +kernel
theorem dX10_logs_10 : decode cX10_logs 10 = .ok (.aload_n 0, 1) := by decide +kernel
theorem dX10_logs_11 : decode cX10_logs 11 = .ok (.iconst 1, 1) := by decide +kernel
theorem dX10_logs_12 : decode cX10_logs 12 = .ok (.iconst 0, 1) := by decide +kernel
theorem dX10_logs_13 : decode cX10_logs 13 = .ok (.invokevirtual 114, 3) := by decide +kernel
theorem dX10_logs_16 : decode cX10_logs 16 = .ok (.ireturn, 1) := by decide +kernel
theorem dX10_logs_17 : decode cX10_logs 17 = .ok (.aload_n 0, 1) := by decide +kernel
theorem dX10_logs_18 : decode cX10_logs 18 = .ok (.getfield 7, 3) := by decide +kernel
theorem dX10_logs_21 : decode cX10_logs 21 = .ok (.iconst 1, 1) := by decide +kernel
theorem dX10_logs_22 : decode cX10_logs 22 = .ok (.iaload, 1) := by decide +kernel
theorem dX10_logs_23 : decode cX10_logs 23 = .ok (.iload_n 1, 1) := by decide +kernel
theorem dX10_logs_24 : decode cX10_logs 24 = .ok (.iadd, 1) := by decide +kernel
theorem dX10_logs_25 : decode cX10_logs 25 = .ok (.bipush 12, 2) := by decide +kernel
theorem dX10_logs_27 : decode cX10_logs 27 = .ok (.if_icmp .le 11, 3) := by decide +kernel
theorem dX10_logs_30 : decode cX10_logs 30 = .ok (.aload_n 0, 1) := by decide +kernel
theorem dX10_logs_31 : decode cX10_logs 31 = .ok (.iconst 2, 1) := by decide +kernel
theorem dX10_logs_32 : decode cX10_logs 32 = .ok (.bipush 12, 2) := by decide +kernel
theorem dX10_logs_34 : decode cX10_logs 34 = .ok (.invokevirtual 114, 3) := by decide +kernel
theorem dX10_logs_37 : decode cX10_logs 37 = .ok (.ireturn, 1) := by decide +kernel
theorem dX10_logs_38 : decode cX10_logs 38 = .ok (.aload_n 0, 1) := by decide +kernel
theorem dX10_logs_39 : decode cX10_logs 39 = .ok (.aload_n 0, 1) := by decide +kernel
theorem dX10_logs_40 : decode cX10_logs 40 = .ok (.getfield 7, 3) := by decide +kernel
theorem dX10_logs_43 : decode cX10_logs 43 = .ok (.invokevirtual 117, 3) := by decide +kernel
theorem dX10_logs_46 : decode cX10_logs 46 = .ok (.aload_n 0, 1) := by decide +kernel
theorem dX10_logs_47 : decode cX10_logs 47 = .ok (.getfield 7, 3) := by decide +kernel
theorem dX10_logs_50 : decode cX10_logs 50 = .ok (.iconst 1, 1) := by decide +kernel
theorem dX10_logs_51 : decode cX10_logs 51 = .ok (.dup2, 1) := by decide +kernel
theorem dX10_logs_52 : decode cX10_logs 52 = .ok (.iaload, 1) := by decide +kernel
theorem dX10_logs_53 : decode cX10_logs 53 = .ok (.iload_n 1, 1) := by decide +kernel
theorem dX10_logs_54 : decode cX10_logs 54 = .ok (.iadd, 1) := by decide +kernel
theorem dX10_logs_55 : decode cX10_logs 55 = .ok (.iastore, 1) := by decide +kernel
theorem dX10_logs_56 : decode cX10_logs 56 = .ok (.aload_n 0, 1) := by decide +kernel
theorem dX10_logs_57 : decode cX10_logs 57 = .ok (.getfield 7, 3) := by decide +kernel
theorem dX10_logs_60 : decode cX10_logs 60 = .ok (.iconst 1, 1) := by decide +kernel
theorem dX10_logs_61 : decode cX10_logs 61 = .ok (.iaload, 1) := by decide +kernel
theorem dX10_logs_62 : decode cX10_logs 62 = .ok (.ireturn, 1) := by decide +kernel
theorem dX10_wood_0 : decode cX10_wood 0 = .ok (.iload_n 1, 1) := by decide +kernel
theorem dX10_wood_1 : decode cX10_wood 1 = .ok (.iconst 0, 1) := by decide +kernel
theorem dX10_wood_2 : decode cX10_wood 2 = .ok (.iconst 3, 1) := by decide +kernel
theorem dX10_wood_3 : decode cX10_wood 3 = .ok (.invokestatic 65, 3) := by decide +kernel
theorem dX10_wood_6 : decode cX10_wood 6 = .ok (.ifCond .ne 10, 3) := by decide +kernel
theorem dX10_wood_9 : decode cX10_wood 9 = .ok (.aload_n 0, 1) := by decide +kernel
theorem dX10_wood_10 : decode cX10_wood 10 = .ok (.iconst 1, 1) := by decide +kernel
theorem dX10_wood_11 : decode cX10_wood 11 = .ok (.iconst 0, 1) := by decide +kernel
theorem dX10_wood_12 : decode cX10_wood 12 = .ok (.invokevirtual 114, 3) := by decide +kernel
theorem dX10_wood_15 : decode cX10_wood 15 = .ok (.ireturn, 1) := by decide +kernel
theorem dX10_wood_16 : decode cX10_wood 16 = .ok (.aload_n 0, 1) := by decide +kernel
theorem dX10_wood_17 : decode cX10_wood 17 = .ok (.getfield 7, 3) := by decide +kernel
theorem dX10_wood_20 : decode cX10_wood 20 = .ok (.iconst 2, 1) := by decide +kernel
theorem dX10_wood_21 : decode cX10_wood 21 = .ok (.iaload, 1) := by decide +kernel
theorem dX10_wood_22 : decode cX10_wood 22 = .ok (.istore_n 2, 1) := by decide +kernel
theorem dX10_wood_23 : decode cX10_wood 23 = .ok (.iload_n 2, 1) := by decide +kernel
theorem dX10_wood_24 : decode cX10_wood 24 = .ok (.iload_n 1, 1) := by decide +kernel
theorem dX10_wood_25 : decode cX10_wood 25 = .ok (.if_icmp .ne 11, 3) := by decide +kernel
theorem dX10_wood_28 : decode cX10_wood 28 = .ok (.aload_n 0, 1) := by decide +kernel
theorem dX10_wood_29 : decode cX10_wood 29 = .ok (.bipush 9, 2) := by decide +kernel
theorem dX10_wood_31 : decode cX10_wood 31 = .ok (.iload_n 1, 1) := by decide +kernel
theorem dX10_wood_32 : decode cX10_wood 32 = .ok (.invokevirtual 114, 3) := by decide +kernel
theorem dX10_wood_35 : decode cX10_wood 35 = .ok (.ireturn, 1) := by decide +kernel
theorem dX10_wood_36 : decode cX10_wood 36 = .ok (.aload_n 0, 1) := by decide +kernel
theorem dX10_wood_37 : decode cX10_wood 37 = .ok (.aload_n 0, 1) := by decide +kernel
theorem dX10_wood_38 : decode cX10_wood 38 = .ok (.getfield 7, 3) := by decide +kernel
theorem dX10_wood_41 : decode cX10_wood 41 = .ok (.invokevirtual 117, 3) := by decide +kernel
theorem dX10_wood_44 : decode cX10_wood 44 = .ok (.aload_n 0, 1) := by decide +kernel
theorem dX10_wood_45 : decode cX10_wood 45 = .ok (.getfield 7, 3) := by decide +kernel
theorem dX10_wood_48 : decode cX10_wood 48 = .ok (.iconst 2, 1) := by decide +kernel
theorem dX10_wood_49 : decode cX10_wood 49 = .ok (.iload_n 1, 1) := by decide +kernel
theorem dX10_wood_50 : decode cX10_wood 50 = .ok (.iastore, 1) := by decide +kernel
theorem dX10_wood_51 : decode cX10_wood 51 = .ok (.iload_n 2, 1) := by decide +kernel
theorem dX10_wood_52 : decode cX10_wood 52 = .ok (.ireturn, 1) := by decide +kernel
theorem dX10_day_0 : decode cX10_day 0 = .ok (.aload_n 0, 1) := by decide +kernel
theorem dX10_day_1 : decode cX10_day 1 = .ok (.iconst 1, 1) := by decide +kernel
theorem dX10_day_2 : decode cX10_day 2 = .ok (.invokevirtual 124, 3) := by decide +kernel
theorem dX10_day_5 : decode cX10_day 5 = .ok (.ifCond .ne 11, 3) := by decide +kernel
theorem dX10_day_8 : decode cX10_day 8 = .ok (.aload_n 0, 1) := by decide +kernel
theorem dX10_day_9 : decode cX10_day 9 = .ok (.bipush 8, 2) := by decide +kernel
theorem dX10_day_11 : decode cX10_day 11 = .ok (.iconst 0, 1) := by decide +kernel
theorem dX10_day_12 : decode cX10_day 12 = .ok (.invokevirtual 114, 3) := by decide +kernel
theorem dX10_day_15 : decode cX10_day 15 = .ok (.ireturn, 1) := by decide +kernel
theorem dX10_day_16 : decode cX10_day 16 = .ok (.aload_n 0, 1) := by decide +kernel
theorem dX10_day_17 : decode cX10_day 17 = .ok (.aload_n 0, 1) := by decide +kernel
theorem dX10_day_18 : decode cX10_day 18 = .ok (.getfield 7, 3) := by decide +kernel
theorem dX10_day_21 : decode cX10_day 21 = .ok (.invokevirtual 117, 3) := by decide +kernel
theorem dX10_day_24 : decode cX10_day 24 = .ok (.iconst 0, 1) := by decide +kernel
theorem dX10_day_25 : decode cX10_day 25 = .ok (.istore_n 1, 1) := by decide +kernel
theorem dX10_day_26 : decode cX10_day 26 = .ok (.iconst 0, 1) := by decide +kernel
theorem dX10_day_27 : decode cX10_day 27 = .ok (.istore_n 2, 1) := by decide +kernel
theorem dX10_day_28 : decode cX10_day 28 = .ok (.iload_n 2, 1) := by decide +kernel
theorem dX10_day_29 : decode cX10_day 29 = .ok (.aload_n 0, 1) := by decide +kernel
theorem dX10_day_30 : decode cX10_day 30 = .ok (.getfield 7, 3) := by decide +kernel
theorem dX10_day_33 : decode cX10_day 33 = .ok (.iconst 0, 1) := by decide +kernel
theorem dX10_day_34 : decode cX10_day 34 = .ok (.iaload, 1) := by decide +kernel
theorem dX10_day_35 : decode cX10_day 35 = .ok (.if_icmp .ge 50, 3) := by decide +kernel
theorem dX10_day_38 : decode cX10_day 38 = .ok (.aload_n 0, 1) := by decide +kernel
theorem dX10_day_39 : decode cX10_day 39 = .ok (.iload_n 2, 1) := by decide +kernel
theorem dX10_day_40 : decode cX10_day 40 = .ok (.iconst 2, 1) := by decide +kernel
theorem dX10_day_41 : decode cX10_day 41 = .ok (.invokevirtual 69, 3) := by decide +kernel
theorem dX10_day_44 : decode cX10_day 44 = .ok (.iconst 1, 1) := by decide +kernel
theorem dX10_day_45 : decode cX10_day 45 = .ok (.if_icmp .eq 6, 3) := by decide +kernel
theorem dX10_day_48 : decode cX10_day 48 = .ok (.goto 31, 3) := by decide +kernel
theorem dX10_day_51 : decode cX10_day 51 = .ok (.aload_n 0, 1) := by decide +kernel
theorem dX10_day_52 : decode cX10_day 52 = .ok (.iload_n 2, 1) := by decide +kernel
theorem dX10_day_53 : decode cX10_day 53 = .ok (.iconst 1, 1) := by decide +kernel
theorem dX10_day_54 : decode cX10_day 54 = .ok (.aload_n 0, 1) := by decide +kernel
theorem dX10_day_55 : decode cX10_day 55 = .ok (.iload_n 2, 1) := by decide +kernel
theorem dX10_day_56 : decode cX10_day 56 = .ok (.iconst 1, 1) := by decide +kernel
theorem dX10_day_57 : decode cX10_day 57 = .ok (.invokevirtual 69, 3) := by decide +kernel
theorem dX10_day_60 : decode cX10_day 60 = .ok (.iconst 2, 1) := by decide +kernel
theorem dX10_day_61 : decode cX10_day 61 = .ok (.iadd, 1) := by decide +kernel
theorem dX10_day_62 : decode cX10_day 62 = .ok (.bipush 9, 2) := by decide +kernel
theorem dX10_day_64 : decode cX10_day 64 = .ok (.invokestatic 80, 3) := by decide +kernel
theorem dX10_day_67 : decode cX10_day 67 = .ok (.invokevirtual 103, 3) := by decide +kernel
theorem dX10_day_70 : decode cX10_day 70 = .ok (.iload_n 1, 1) := by decide +kernel
theorem dX10_day_71 : decode cX10_day 71 = .ok (.aload_n 0, 1) := by decide +kernel
theorem dX10_day_72 : decode cX10_day 72 = .ok (.iload_n 2, 1) := by decide +kernel
theorem dX10_day_73 : decode cX10_day 73 = .ok (.iconst 1, 1) := by decide +kernel
theorem dX10_day_74 : decode cX10_day 74 = .ok (.invokevirtual 69, 3) := by decide +kernel
theorem dX10_day_77 : decode cX10_day 77 = .ok (.iadd, 1) := by decide +kernel
theorem dX10_day_78 : decode cX10_day 78 = .ok (.istore_n 1, 1) := by decide +kernel
theorem dX10_day_79 : decode cX10_day 79 = .ok (.iinc 2 1, 3) := by decide +kernel
theorem dX10_day_82 : decode cX10_day 82 = .ok (.goto (-54), 3) := by decide +kernel
theorem dX10_day_85 : decode cX10_day 85 = .ok (.aload_n 0, 1) := by decide +kernel
theorem dX10_day_86 : decode cX10_day 86 = .ok (.getfield 7, 3) := by decide +kernel
theorem dX10_day_89 : decode cX10_day 89 = .ok (.iconst 4, 1) := by decide +kernel
theorem dX10_day_90 : decode cX10_day 90 = .ok (.dup2, 1) := by decide +kernel
theorem dX10_day_91 : decode cX10_day 91 = .ok (.iaload, 1) := by decide +kernel
theorem dX10_day_92 : decode cX10_day 92 = .ok (.iconst 1, 1) := by decide +kernel
theorem dX10_day_93 : decode cX10_day 93 = .ok (.iadd, 1) := by decide +kernel
theorem dX10_day_94 : decode cX10_day 94 = .ok (.iastore, 1) := by decide +kernel
theorem dX10_day_95 : decode cX10_day 95 = .ok (.iload_n 1, 1) := by decide +kernel
theorem dX10_day_96 : decode cX10_day 96 = .ok (.ireturn, 1) := by decide +kernel
theorem dX10_hours_0 : decode cX10_hours 0 = .ok (.iload_n 1, 1) := by decide +kernel
theorem dX10_hours_1 : decode cX10_hours 1 = .ok (.iconst 1, 1) := by decide +kernel
theorem dX10_hours_2 : decode cX10_hours 2 = .ok (.bipush 24, 2) := by decide +kernel
theorem dX10_hours_4 : decode cX10_hours 4 = .ok (.invokestatic 65, 3) := by decide +kernel
theorem dX10_hours_7 : decode cX10_hours 7 = .ok (.ifCond .ne 10, 3) := by decide +kernel
theorem dX10_hours_10 : decode cX10_hours 10 = .ok (.aload_n 0, 1) := by decide +kernel
theorem dX10_hours_11 : decode cX10_hours 11 = .ok (.iconst 1, 1) := by decide +kernel
theorem dX10_hours_12 : decode cX10_hours 12 = .ok (.iconst 0, 1) := by decide +kernel
theorem dX10_hours_13 : decode cX10_hours 13 = .ok (.invokevirtual 114, 3) := by decide +kernel
theorem dX10_hours_16 : decode cX10_hours 16 = .ok (.ireturn, 1) := by decide +kernel
theorem dX10_hours_17 : decode cX10_hours 17 = .ok (.aload_n 0, 1) := by decide +kernel
theorem dX10_hours_18 : decode cX10_hours 18 = .ok (.aload_n 0, 1) := by decide +kernel
theorem dX10_hours_19 : decode cX10_hours 19 = .ok (.getfield 7, 3) := by decide +kernel
theorem dX10_hours_22 : decode cX10_hours 22 = .ok (.invokevirtual 117, 3) := by decide +kernel
theorem dX10_hours_25 : decode cX10_hours 25 = .ok (.iconst 0, 1) := by decide +kernel
theorem dX10_hours_26 : decode cX10_hours 26 = .ok (.istore_n 2, 1) := by decide +kernel
theorem dX10_hours_27 : decode cX10_hours 27 = .ok (.iload_n 2, 1) := by decide +kernel
theorem dX10_hours_28 : decode cX10_hours 28 = .ok (.iload_n 1, 1) := by decide +kernel
theorem dX10_hours_29 : decode cX10_hours 29 = .ok (.if_icmp .ge 13, 3) := by decide +kernel
theorem dX10_hours_32 : decode cX10_hours 32 = .ok (.aload_n 0, 1) := by decide +kernel
theorem dX10_hours_33 : decode cX10_hours 33 = .ok (.invokevirtual 140, 3) := by decide +kernel
theorem dX10_hours_36 : decode cX10_hours 36 = .ok (.iinc 2 1, 3) := by decide +kernel
theorem dX10_hours_39 : decode cX10_hours 39 = .ok (.goto (-12), 3) := by decide +kernel
theorem dX10_hours_42 : decode cX10_hours 42 = .ok (.aload_n 0, 1) := by decide +kernel
theorem dX10_hours_43 : decode cX10_hours 43 = .ok (.invokevirtual 143, 3) := by decide +kernel
theorem dX10_hours_46 : decode cX10_hours 46 = .ok (.ireturn, 1) := by decide +kernel
theorem dX10_goes_0 : decode cX10_goes 0 = .ok (.aload_n 0, 1) := by decide +kernel
theorem dX10_goes_1 : decode cX10_goes 1 = .ok (.getfield 7, 3) := by decide +kernel
theorem dX10_goes_4 : decode cX10_goes 4 = .ok (.iconst 0, 1) := by decide +kernel
theorem dX10_goes_5 : decode cX10_goes 5 = .ok (.dup2, 1) := by decide +kernel
theorem dX10_goes_6 : decode cX10_goes 6 = .ok (.iaload, 1) := by decide +kernel
theorem dX10_goes_7 : decode cX10_goes 7 = .ok (.iconst 1, 1) := by decide +kernel
theorem dX10_goes_8 : decode cX10_goes 8 = .ok (.isub, 1) := by decide +kernel
theorem dX10_goes_9 : decode cX10_goes 9 = .ok (.iastore, 1) := by decide +kernel
theorem dX10_goes_10 : decode cX10_goes 10 = .ok (.bipush 8, 2) := by decide +kernel
theorem dX10_goes_12 : decode cX10_goes 12 = .ok (.bipush 11, 2) := by decide +kernel
theorem dX10_goes_14 : decode cX10_goes 14 = .ok (.iload_n 1, 1) := by decide +kernel
theorem dX10_goes_15 : decode cX10_goes 15 = .ok (.imul, 1) := by decide +kernel
theorem dX10_goes_16 : decode cX10_goes 16 = .ok (.iadd, 1) := by decide +kernel
theorem dX10_goes_17 : decode cX10_goes 17 = .ok (.istore_n 2, 1) := by decide +kernel
theorem dX10_goes_18 : decode cX10_goes 18 = .ok (.iload_n 2, 1) := by decide +kernel
theorem dX10_goes_19 : decode cX10_goes 19 = .ok (.bipush 8, 2) := by decide +kernel
theorem dX10_goes_21 : decode cX10_goes 21 = .ok (.bipush 11, 2) := by decide +kernel
theorem dX10_goes_23 : decode cX10_goes 23 = .ok (.aload_n 0, 1) := by decide +kernel
theorem dX10_goes_24 : decode cX10_goes 24 = .ok (.getfield 7, 3) := by decide +kernel
theorem dX10_goes_27 : decode cX10_goes 27 = .ok (.iconst 0, 1) := by decide +kernel
theorem dX10_goes_28 : decode cX10_goes 28 = .ok (.iaload, 1) := by decide +kernel
theorem dX10_goes_29 : decode cX10_goes 29 = .ok (.imul, 1) := by decide +kernel
theorem dX10_goes_30 : decode cX10_goes 30 = .ok (.iadd, 1) := by decide +kernel
theorem dX10_goes_31 : decode cX10_goes 31 = .ok (.if_icmp .ge 24, 3) := by decide +kernel
theorem dX10_goes_34 : decode cX10_goes 34 = .ok (.aload_n 0, 1) := by decide +kernel
theorem dX10_goes_35 : decode cX10_goes 35 = .ok (.getfield 7, 3) := by decide +kernel
theorem dX10_goes_38 : decode cX10_goes 38 = .ok (.iload_n 2, 1) := by decide +kernel
theorem dX10_goes_39 : decode cX10_goes 39 = .ok (.aload_n 0, 1) := by decide +kernel
theorem dX10_goes_40 : decode cX10_goes 40 = .ok (.getfield 7, 3) := by decide +kernel
theorem dX10_goes_43 : decode cX10_goes 43 = .ok (.iload_n 2, 1) := by decide +kernel
theorem dX10_goes_44 : decode cX10_goes 44 = .ok (.bipush 11, 2) := by decide +kernel
theorem dX10_goes_46 : decode cX10_goes 46 = .ok (.iadd, 1) := by decide +kernel
theorem dX10_goes_47 : decode cX10_goes 47 = .ok (.iaload, 1) := by decide +kernel
theorem dX10_goes_48 : decode cX10_goes 48 = .ok (.iastore, 1) := by decide +kernel
theorem dX10_goes_49 : decode cX10_goes 49 = .ok (.iinc 2 1, 3) := by decide +kernel
theorem dX10_goes_52 : decode cX10_goes 52 = .ok (.goto (-34), 3) := by decide +kernel
theorem dX10_goes_55 : decode cX10_goes 55 = .ok (.iconst 0, 1) := by decide +kernel
theorem dX10_goes_56 : decode cX10_goes 56 = .ok (.istore_n 2, 1) := by decide +kernel
theorem dX10_goes_57 : decode cX10_goes 57 = .ok (.iload_n 2, 1) := by decide +kernel
theorem dX10_goes_58 : decode cX10_goes 58 = .ok (.bipush 11, 2) := by decide +kernel
theorem dX10_goes_60 : decode cX10_goes 60 = .ok (.if_icmp .ge 21, 3) := by decide +kernel
theorem dX10_goes_63 : decode cX10_goes 63 = .ok (.aload_n 0, 1) := by decide +kernel
theorem dX10_goes_64 : decode cX10_goes 64 = .ok (.aload_n 0, 1) := by decide +kernel
theorem dX10_goes_65 : decode cX10_goes 65 = .ok (.getfield 7, 3) := by decide +kernel
theorem dX10_goes_68 : decode cX10_goes 68 = .ok (.iconst 0, 1) := by decide +kernel
theorem dX10_goes_69 : decode cX10_goes 69 = .ok (.iaload, 1) := by decide +kernel
theorem dX10_goes_70 : decode cX10_goes 70 = .ok (.iload_n 2, 1) := by decide +kernel
theorem dX10_goes_71 : decode cX10_goes 71 = .ok (.iconst 0, 1) := by decide +kernel
theorem dX10_goes_72 : decode cX10_goes 72 = .ok (.invokevirtual 103, 3) := by decide +kernel
theorem dX10_goes_75 : decode cX10_goes 75 = .ok (.iinc 2 1, 3) := by decide +kernel
theorem dX10_goes_78 : decode cX10_goes 78 = .ok (.goto (-21), 3) := by decide +kernel
theorem dX10_goes_81 : decode cX10_goes 81 = .ok (.return_, 1) := by decide +kernel
theorem dX10_sell_0 : decode cX10_sell 0 = .ok (.aload_n 0, 1) := by decide +kernel
theorem dX10_sell_1 : decode cX10_sell 1 = .ok (.iload_n 1, 1) := by decide +kernel
theorem dX10_sell_2 : decode cX10_sell 2 = .ok (.invokevirtual 121, 3) := by decide +kernel
theorem dX10_sell_5 : decode cX10_sell 5 = .ok (.ifCond .ne 15, 3) := by decide +kernel
theorem dX10_sell_8 : decode cX10_sell 8 = .ok (.aload_n 0, 1) := by decide +kernel
theorem dX10_sell_9 : decode cX10_sell 9 = .ok (.iconst 3, 1) := by decide +kernel
theorem dX10_sell_10 : decode cX10_sell 10 = .ok (.aload_n 0, 1) := by decide +kernel
theorem dX10_sell_11 : decode cX10_sell 11 = .ok (.getfield 7, 3) := by decide +kernel
theorem dX10_sell_14 : decode cX10_sell 14 = .ok (.iconst 0, 1) := by decide +kernel
theorem dX10_sell_15 : decode cX10_sell 15 = .ok (.iaload, 1) := by decide +kernel
theorem dX10_sell_16 : decode cX10_sell 16 = .ok (.invokevirtual 114, 3) := by decide +kernel
theorem dX10_sell_19 : decode cX10_sell 19 = .ok (.ireturn, 1) := by decide +kernel
theorem dX10_sell_20 : decode cX10_sell 20 = .ok (.aload_n 0, 1) := by decide +kernel
theorem dX10_sell_21 : decode cX10_sell 21 = .ok (.iload_n 1, 1) := by decide +kernel
theorem dX10_sell_22 : decode cX10_sell 22 = .ok (.invokevirtual 147, 3) := by decide +kernel
theorem dX10_sell_25 : decode cX10_sell 25 = .ok (.ifCond .ne 28, 3) := by decide +kernel
theorem dX10_sell_28 : decode cX10_sell 28 = .ok (.aload_n 0, 1) := by decide +kernel
theorem dX10_sell_29 : decode cX10_sell 29 = .ok (.bipush 10, 2) := by decide +kernel
theorem dX10_sell_31 : decode cX10_sell 31 = .ok (.aload_n 0, 1) := by decide +kernel
theorem dX10_sell_32 : decode cX10_sell 32 = .ok (.iload_n 1, 1) := by decide +kernel
theorem dX10_sell_33 : decode cX10_sell 33 = .ok (.invokevirtual 91, 3) := by decide +kernel
theorem dX10_sell_36 : decode cX10_sell 36 = .ok (.ifCond .eq 8, 3) := by decide +kernel
theorem dX10_sell_39 : decode cX10_sell 39 = .ok (.bipush 100, 2) := by decide +kernel
theorem dX10_sell_41 : decode cX10_sell 41 = .ok (.goto 8, 3) := by decide +kernel
theorem dX10_sell_44 : decode cX10_sell 44 = .ok (.aload_n 0, 1) := by decide +kernel
theorem dX10_sell_45 : decode cX10_sell 45 = .ok (.iload_n 1, 1) := by decide +kernel
theorem dX10_sell_46 : decode cX10_sell 46 = .ok (.invokevirtual 94, 3) := by decide +kernel
theorem dX10_sell_49 : decode cX10_sell 49 = .ok (.invokevirtual 114, 3) := by decide +kernel
theorem dX10_sell_52 : decode cX10_sell 52 = .ok (.ireturn, 1) := by decide +kernel
theorem dX10_sell_53 : decode cX10_sell 53 = .ok (.aload_n 0, 1) := by decide +kernel
theorem dX10_sell_54 : decode cX10_sell 54 = .ok (.aload_n 0, 1) := by decide +kernel
theorem dX10_sell_55 : decode cX10_sell 55 = .ok (.getfield 7, 3) := by decide +kernel
theorem dX10_sell_58 : decode cX10_sell 58 = .ok (.invokevirtual 117, 3) := by decide +kernel
theorem dX10_sell_61 : decode cX10_sell 61 = .ok (.aload_n 0, 1) := by decide +kernel
theorem dX10_sell_62 : decode cX10_sell 62 = .ok (.iload_n 1, 1) := by decide +kernel
theorem dX10_sell_63 : decode cX10_sell 63 = .ok (.invokevirtual 150, 3) := by decide +kernel
theorem dX10_sell_66 : decode cX10_sell 66 = .ok (.istore_n 2, 1) := by decide +kernel
theorem dX10_sell_67 : decode cX10_sell 67 = .ok (.aload_n 0, 1) := by decide +kernel
theorem dX10_sell_68 : decode cX10_sell 68 = .ok (.iload_n 1, 1) := by decide +kernel
theorem dX10_sell_69 : decode cX10_sell 69 = .ok (.invokevirtual 153, 3) := by decide +kernel
theorem dX10_sell_72 : decode cX10_sell 72 = .ok (.aload_n 0, 1) := by decide +kernel
theorem dX10_sell_73 : decode cX10_sell 73 = .ok (.getfield 7, 3) := by decide +kernel
theorem dX10_sell_76 : decode cX10_sell 76 = .ok (.iconst 5, 1) := by decide +kernel
theorem dX10_sell_77 : decode cX10_sell 77 = .ok (.dup2, 1) := by decide +kernel
theorem dX10_sell_78 : decode cX10_sell 78 = .ok (.iaload, 1) := by decide +kernel
theorem dX10_sell_79 : decode cX10_sell 79 = .ok (.iconst 1, 1) := by decide +kernel
theorem dX10_sell_80 : decode cX10_sell 80 = .ok (.iadd, 1) := by decide +kernel
theorem dX10_sell_81 : decode cX10_sell 81 = .ok (.iastore, 1) := by decide +kernel
theorem dX10_sell_82 : decode cX10_sell 82 = .ok (.aload_n 0, 1) := by decide +kernel
theorem dX10_sell_83 : decode cX10_sell 83 = .ok (.getfield 7, 3) := by decide +kernel
theorem dX10_sell_86 : decode cX10_sell 86 = .ok (.bipush 6, 2) := by decide +kernel
theorem dX10_sell_88 : decode cX10_sell 88 = .ok (.dup2, 1) := by decide +kernel
theorem dX10_sell_89 : decode cX10_sell 89 = .ok (.iaload, 1) := by decide +kernel
theorem dX10_sell_90 : decode cX10_sell 90 = .ok (.iload_n 2, 1) := by decide +kernel
theorem dX10_sell_91 : decode cX10_sell 91 = .ok (.iadd, 1) := by decide +kernel
theorem dX10_sell_92 : decode cX10_sell 92 = .ok (.iastore, 1) := by decide +kernel
theorem dX10_sell_93 : decode cX10_sell 93 = .ok (.iload_n 2, 1) := by decide +kernel
theorem dX10_sell_94 : decode cX10_sell 94 = .ok (.ireturn, 1) := by decide +kernel
theorem dX10_throwAway_0 : decode cX10_throwAway 0 = .ok (.aload_n 0, 1) := by decide +kernel
theorem dX10_throwAway_1 : decode cX10_throwAway 1 = .ok (.iload_n 1, 1) := by decide +kernel
theorem dX10_throwAway_2 : decode cX10_throwAway 2 = .ok (.invokevirtual 121, 3) := by decide +kernel
theorem dX10_throwAway_5 : decode cX10_throwAway 5 = .ok (.ifCond .ne 15, 3) := by decide +kernel
theorem dX10_throwAway_8 : decode cX10_throwAway 8 = .ok (.aload_n 0, 1) := by decide +kernel
theorem dX10_throwAway_9 : decode cX10_throwAway 9 = .ok (.iconst 3, 1) := by decide +kernel
theorem dX10_throwAway_10 : decode cX10_throwAway 10 = .ok (.aload_n 0, 1) := by decide +kernel
theorem dX10_throwAway_11 : decode cX10_throwAway 11 = .ok (.getfield 7, 3) := by decide +kernel
theorem dX10_throwAway_14 : decode cX10_throwAway 14 = .ok (.iconst 0, 1) := by decide +kernel
theorem dX10_throwAway_15 : decode cX10_throwAway 15 = .ok (.iaload, 1) := by decide +kernel
theorem dX10_throwAway_16 : decode cX10_throwAway 16 = .ok (.invokevirtual 114, 3) := by decide +kernel
theorem dX10_throwAway_19 : decode cX10_throwAway 19 = .ok (.ireturn, 1) := by decide +kernel
theorem dX10_throwAway_20 : decode cX10_throwAway 20 = .ok (.aload_n 0, 1) := by decide +kernel
theorem dX10_throwAway_21 : decode cX10_throwAway 21 = .ok (.aload_n 0, 1) := by decide +kernel
theorem dX10_throwAway_22 : decode cX10_throwAway 22 = .ok (.getfield 7, 3) := by decide +kernel
theorem dX10_throwAway_25 : decode cX10_throwAway 25 = .ok (.invokevirtual 117, 3) := by decide +kernel
theorem dX10_throwAway_28 : decode cX10_throwAway 28 = .ok (.aload_n 0, 1) := by decide +kernel
theorem dX10_throwAway_29 : decode cX10_throwAway 29 = .ok (.iload_n 1, 1) := by decide +kernel
theorem dX10_throwAway_30 : decode cX10_throwAway 30 = .ok (.iconst 0, 1) := by decide +kernel
theorem dX10_throwAway_31 : decode cX10_throwAway 31 = .ok (.invokevirtual 69, 3) := by decide +kernel
theorem dX10_throwAway_34 : decode cX10_throwAway 34 = .ok (.istore_n 2, 1) := by decide +kernel
theorem dX10_throwAway_35 : decode cX10_throwAway 35 = .ok (.aload_n 0, 1) := by decide +kernel
theorem dX10_throwAway_36 : decode cX10_throwAway 36 = .ok (.iload_n 1, 1) := by decide +kernel
theorem dX10_throwAway_37 : decode cX10_throwAway 37 = .ok (.invokevirtual 153, 3) := by decide +kernel
theorem dX10_throwAway_40 : decode cX10_throwAway 40 = .ok (.aload_n 0, 1) := by decide +kernel
theorem dX10_throwAway_41 : decode cX10_throwAway 41 = .ok (.getfield 7, 3) := by decide +kernel
theorem dX10_throwAway_44 : decode cX10_throwAway 44 = .ok (.bipush 7, 2) := by decide +kernel
theorem dX10_throwAway_46 : decode cX10_throwAway 46 = .ok (.dup2, 1) := by decide +kernel
theorem dX10_throwAway_47 : decode cX10_throwAway 47 = .ok (.iaload, 1) := by decide +kernel
theorem dX10_throwAway_48 : decode cX10_throwAway 48 = .ok (.iconst 1, 1) := by decide +kernel
theorem dX10_throwAway_49 : decode cX10_throwAway 49 = .ok (.iadd, 1) := by decide +kernel
theorem dX10_throwAway_50 : decode cX10_throwAway 50 = .ok (.iastore, 1) := by decide +kernel
theorem dX10_throwAway_51 : decode cX10_throwAway 51 = .ok (.iload_n 2, 1) := by decide +kernel
theorem dX10_throwAway_52 : decode cX10_throwAway 52 = .ok (.ireturn, 1) := by decide +kernel
theorem dX10_fishOf_0 : decode cX10_fishOf 0 = .ok (.aload_n 0, 1) := by decide +kernel
theorem dX10_fishOf_1 : decode cX10_fishOf 1 = .ok (.aload_n 0, 1) := by decide +kernel
theorem dX10_fishOf_2 : decode cX10_fishOf 2 = .ok (.iload_n 1, 1) := by decide +kernel
theorem dX10_fishOf_3 : decode cX10_fishOf 3 = .ok (.invokevirtual 121, 3) := by decide +kernel
theorem dX10_fishOf_6 : decode cX10_fishOf 6 = .ok (.ifCond .ne 7, 3) := by decide +kernel
theorem dX10_fishOf_9 : decode cX10_fishOf 9 = .ok (.iconst 1, 1) := by decide +kernel
theorem dX10_fishOf_10 : decode cX10_fishOf 10 = .ok (.goto 18, 3) := by decide +kernel
theorem dX10_fishOf_13 : decode cX10_fishOf 13 = .ok (.iload_n 2, 1) := by decide +kernel
theorem dX10_fishOf_14 : decode cX10_fishOf 14 = .ok (.iconst 0, 1) := by decide +kernel
theorem dX10_fishOf_15 : decode cX10_fishOf 15 = .ok (.bipush 8, 2) := by decide +kernel
theorem dX10_fishOf_17 : decode cX10_fishOf 17 = .ok (.invokestatic 65, 3) := by decide +kernel
theorem dX10_fishOf_20 : decode cX10_fishOf 20 = .ok (.ifCond .eq 7, 3) := by decide +kernel
theorem dX10_fishOf_23 : decode cX10_fishOf 23 = .ok (.iconst 0, 1) := by decide +kernel
theorem dX10_fishOf_24 : decode cX10_fishOf 24 = .ok (.goto 4, 3) := by decide +kernel
theorem dX10_fishOf_27 : decode cX10_fishOf 27 = .ok (.iconst 2, 1) := by decide +kernel
theorem dX10_fishOf_28 : decode cX10_fishOf 28 = .ok (.invokevirtual 156, 3) := by decide +kernel
theorem dX10_fishOf_31 : decode cX10_fishOf 31 = .ok (.ifCond .eq 5, 3) := by decide +kernel
theorem dX10_fishOf_34 : decode cX10_fishOf 34 = .ok (.iconst 0, 1) := by decide +kernel
theorem dX10_fishOf_35 : decode cX10_fishOf 35 = .ok (.ireturn, 1) := by decide +kernel
theorem dX10_fishOf_36 : decode cX10_fishOf 36 = .ok (.iload_n 2, 1) := by decide +kernel
theorem dX10_fishOf_37 : decode cX10_fishOf 37 = .ok (.bipush 7, 2) := by decide +kernel
theorem dX10_fishOf_39 : decode cX10_fishOf 39 = .ok (.if_icmp .ne 11, 3) := by decide +kernel
theorem dX10_fishOf_42 : decode cX10_fishOf 42 = .ok (.aload_n 0, 1) := by decide +kernel
theorem dX10_fishOf_43 : decode cX10_fishOf 43 = .ok (.iload_n 1, 1) := by decide +kernel
theorem dX10_fishOf_44 : decode cX10_fishOf 44 = .ok (.invokevirtual 107, 3) := by decide +kernel
theorem dX10_fishOf_47 : decode cX10_fishOf 47 = .ok (.goto 23, 3) := by decide +kernel
theorem dX10_fishOf_50 : decode cX10_fishOf 50 = .ok (.iload_n 2, 1) := by decide +kernel
theorem dX10_fishOf_51 : decode cX10_fishOf 51 = .ok (.bipush 8, 2) := by decide +kernel
theorem dX10_fishOf_53 : decode cX10_fishOf 53 = .ok (.if_icmp .ne 11, 3) := by decide +kernel
theorem dX10_fishOf_56 : decode cX10_fishOf 56 = .ok (.aload_n 0, 1) := by decide +kernel
theorem dX10_fishOf_57 : decode cX10_fishOf 57 = .ok (.iload_n 1, 1) := by decide +kernel
theorem dX10_fishOf_58 : decode cX10_fishOf 58 = .ok (.invokevirtual 87, 3) := by decide +kernel
theorem dX10_fishOf_61 : decode cX10_fishOf 61 = .ok (.goto 9, 3) := by decide +kernel
theorem dX10_fishOf_64 : decode cX10_fishOf 64 = .ok (.aload_n 0, 1) := by decide +kernel
theorem dX10_fishOf_65 : decode cX10_fishOf 65 = .ok (.iload_n 1, 1) := by decide +kernel
theorem dX10_fishOf_66 : decode cX10_fishOf 66 = .ok (.iload_n 2, 1) := by decide +kernel
theorem dX10_fishOf_67 : decode cX10_fishOf 67 = .ok (.invokevirtual 69, 3) := by decide +kernel
theorem dX10_fishOf_70 : decode cX10_fishOf 70 = .ok (.ireturn, 1) := by decide +kernel
theorem dX10_sideOf_0 : decode cX10_sideOf 0 = .ok (.aload_n 0, 1) := by decide +kernel
theorem dX10_sideOf_1 : decode cX10_sideOf 1 = .ok (.aload_n 0, 1) := by decide +kernel
theorem dX10_sideOf_2 : decode cX10_sideOf 2 = .ok (.iload_n 1, 1) := by decide +kernel
theorem dX10_sideOf_3 : decode cX10_sideOf 3 = .ok (.invokevirtual 121, 3) := by decide +kernel
theorem dX10_sideOf_6 : decode cX10_sideOf 6 = .ok (.ifCond .ne 7, 3) := by decide +kernel
theorem dX10_sideOf_9 : decode cX10_sideOf 9 = .ok (.iconst 1, 1) := by decide +kernel
theorem dX10_sideOf_10 : decode cX10_sideOf 10 = .ok (.goto 17, 3) := by decide +kernel
theorem dX10_sideOf_13 : decode cX10_sideOf 13 = .ok (.iload_n 2, 1) := by decide +kernel
theorem dX10_sideOf_14 : decode cX10_sideOf 14 = .ok (.iconst 0, 1) := by decide +kernel
theorem dX10_sideOf_15 : decode cX10_sideOf 15 = .ok (.iconst 1, 1) := by decide +kernel
theorem dX10_sideOf_16 : decode cX10_sideOf 16 = .ok (.invokestatic 65, 3) := by decide +kernel
theorem dX10_sideOf_19 : decode cX10_sideOf 19 = .ok (.ifCond .eq 7, 3) := by decide +kernel
theorem dX10_sideOf_22 : decode cX10_sideOf 22 = .ok (.iconst 0, 1) := by decide +kernel
theorem dX10_sideOf_23 : decode cX10_sideOf 23 = .ok (.goto 4, 3) := by decide +kernel
theorem dX10_sideOf_26 : decode cX10_sideOf 26 = .ok (.iconst 2, 1) := by decide +kernel
theorem dX10_sideOf_27 : decode cX10_sideOf 27 = .ok (.invokevirtual 156, 3) := by decide +kernel
theorem dX10_sideOf_30 : decode cX10_sideOf 30 = .ok (.ifCond .eq 5, 3) := by decide +kernel
theorem dX10_sideOf_33 : decode cX10_sideOf 33 = .ok (.iconst 0, 1) := by decide +kernel
theorem dX10_sideOf_34 : decode cX10_sideOf 34 = .ok (.ireturn, 1) := by decide +kernel
theorem dX10_sideOf_35 : decode cX10_sideOf 35 = .ok (.aload_n 0, 1) := by decide +kernel
theorem dX10_sideOf_36 : decode cX10_sideOf 36 = .ok (.iload_n 1, 1) := by decide +kernel
theorem dX10_sideOf_37 : decode cX10_sideOf 37 = .ok (.iload_n 3, 1) := by decide +kernel
theorem dX10_sideOf_38 : decode cX10_sideOf 38 = .ok (.ifCond .eq 8, 3) := by decide +kernel
theorem dX10_sideOf_41 : decode cX10_sideOf 41 = .ok (.bipush 9, 2) := by decide +kernel
theorem dX10_sideOf_43 : decode cX10_sideOf 43 = .ok (.goto 5, 3) := by decide +kernel
theorem dX10_sideOf_46 : decode cX10_sideOf 46 = .ok (.bipush 7, 2) := by decide +kernel
theorem dX10_sideOf_48 : decode cX10_sideOf 48 = .ok (.iload_n 2, 1) := by decide +kernel
theorem dX10_sideOf_49 : decode cX10_sideOf 49 = .ok (.iadd, 1) := by decide +kernel
theorem dX10_sideOf_50 : decode cX10_sideOf 50 = .ok (.invokevirtual 69, 3) := by decide +kernel
theorem dX10_sideOf_53 : decode cX10_sideOf 53 = .ok (.ireturn, 1) := by decide +kernel
theorem dX10_at_0 : decode cX10_at 0 = .ok (.aload_n 0, 1) := by decide +kernel
theorem dX10_at_1 : decode cX10_at 1 = .ok (.iload_n 1, 1) := by decide +kernel
theorem dX10_at_2 : decode cX10_at 2 = .ok (.iload_n 2, 1) := by decide +kernel
theorem dX10_at_3 : decode cX10_at 3 = .ok (.invokestatic 127, 3) := by decide +kernel
theorem dX10_at_6 : decode cX10_at 6 = .ok (.ifCond .eq 7, 3) := by decide +kernel
theorem dX10_at_9 : decode cX10_at 9 = .ok (.iconst 0, 1) := by decide +kernel
theorem dX10_at_10 : decode cX10_at 10 = .ok (.goto 4, 3) := by decide +kernel
theorem dX10_at_13 : decode cX10_at 13 = .ok (.iconst 1, 1) := by decide +kernel
theorem dX10_at_14 : decode cX10_at 14 = .ok (.invokevirtual 156, 3) := by decide +kernel
theorem dX10_at_17 : decode cX10_at 17 = .ok (.ifCond .eq 5, 3) := by decide +kernel
theorem dX10_at_20 : decode cX10_at 20 = .ok (.iconst 0, 1) := by decide +kernel
theorem dX10_at_21 : decode cX10_at 21 = .ok (.ireturn, 1) := by decide +kernel
theorem dX10_at_22 : decode cX10_at 22 = .ok (.aload_n 0, 1) := by decide +kernel
theorem dX10_at_23 : decode cX10_at 23 = .ok (.aload_n 0, 1) := by decide +kernel
theorem dX10_at_24 : decode cX10_at 24 = .ok (.iload_n 1, 1) := by decide +kernel
theorem dX10_at_25 : decode cX10_at 25 = .ok (.iload_n 2, 1) := by decide +kernel
theorem dX10_at_26 : decode cX10_at 26 = .ok (.invokevirtual 131, 3) := by decide +kernel
theorem dX10_at_29 : decode cX10_at 29 = .ok (.ifCond .ge 7, 3) := by decide +kernel
theorem dX10_at_32 : decode cX10_at 32 = .ok (.iconst 2, 1) := by decide +kernel
theorem dX10_at_33 : decode cX10_at 33 = .ok (.goto 4, 3) := by decide +kernel
theorem dX10_at_36 : decode cX10_at 36 = .ok (.iconst 0, 1) := by decide +kernel
theorem dX10_at_37 : decode cX10_at 37 = .ok (.invokevirtual 156, 3) := by decide +kernel
theorem dX10_at_40 : decode cX10_at 40 = .ok (.ifCond .eq 7, 3) := by decide +kernel
theorem dX10_at_43 : decode cX10_at 43 = .ok (.iconst 0, 1) := by decide +kernel
theorem dX10_at_44 : decode cX10_at 44 = .ok (.goto 9, 3) := by decide +kernel
theorem dX10_at_47 : decode cX10_at 47 = .ok (.aload_n 0, 1) := by decide +kernel
theorem dX10_at_48 : decode cX10_at 48 = .ok (.iload_n 1, 1) := by decide +kernel
theorem dX10_at_49 : decode cX10_at 49 = .ok (.iload_n 2, 1) := by decide +kernel
theorem dX10_at_50 : decode cX10_at 50 = .ok (.invokevirtual 131, 3) := by decide +kernel
theorem dX10_at_53 : decode cX10_at 53 = .ok (.ireturn, 1) := by decide +kernel
theorem dX10_heat_0 : decode cX10_heat 0 = .ok (.aload_n 0, 1) := by decide +kernel
theorem dX10_heat_1 : decode cX10_heat 1 = .ok (.iload_n 1, 1) := by decide +kernel
theorem dX10_heat_2 : decode cX10_heat 2 = .ok (.iconst 0, 1) := by decide +kernel
theorem dX10_heat_3 : decode cX10_heat 3 = .ok (.iconst 3, 1) := by decide +kernel
theorem dX10_heat_4 : decode cX10_heat 4 = .ok (.invokestatic 65, 3) := by decide +kernel
theorem dX10_heat_7 : decode cX10_heat 7 = .ok (.ifCond .eq 7, 3) := by decide +kernel
theorem dX10_heat_10 : decode cX10_heat 10 = .ok (.iconst 0, 1) := by decide +kernel
theorem dX10_heat_11 : decode cX10_heat 11 = .ok (.goto 4, 3) := by decide +kernel
theorem dX10_heat_14 : decode cX10_heat 14 = .ok (.iconst 1, 1) := by decide +kernel
theorem dX10_heat_15 : decode cX10_heat 15 = .ok (.invokevirtual 156, 3) := by decide +kernel
theorem dX10_heat_18 : decode cX10_heat 18 = .ok (.ifCond .eq 7, 3) := by decide +kernel
theorem dX10_heat_21 : decode cX10_heat 21 = .ok (.iconst 0, 1) := by decide +kernel
theorem dX10_heat_22 : decode cX10_heat 22 = .ok (.goto 8, 3) := by decide +kernel
theorem dX10_heat_25 : decode cX10_heat 25 = .ok (.aload_n 0, 1) := by decide +kernel
theorem dX10_heat_26 : decode cX10_heat 26 = .ok (.iload_n 1, 1) := by decide +kernel
theorem dX10_heat_27 : decode cX10_heat 27 = .ok (.invokevirtual 97, 3) := by decide +kernel
theorem dX10_heat_30 : decode cX10_heat 30 = .ok (.ireturn, 1) := by decide +kernel
theorem dX10_nearest_0 : decode cX10_nearest 0 = .ok (.aload_n 0, 1) := by decide +kernel
theorem dX10_nearest_1 : decode cX10_nearest 1 = .ok (.aload_n 0, 1) := by decide +kernel
theorem dX10_nearest_2 : decode cX10_nearest 2 = .ok (.iload_n 1, 1) := by decide +kernel
theorem dX10_nearest_3 : decode cX10_nearest 3 = .ok (.invokevirtual 121, 3) := by decide +kernel
theorem dX10_nearest_6 : decode cX10_nearest 6 = .ok (.ifCond .eq 7, 3) := by decide +kernel
theorem dX10_nearest_9 : decode cX10_nearest 9 = .ok (.iconst 0, 1) := by decide +kernel
theorem dX10_nearest_10 : decode cX10_nearest 10 = .ok (.goto 4, 3) := by decide +kernel
theorem dX10_nearest_13 : decode cX10_nearest 13 = .ok (.iconst 1, 1) := by decide +kernel
theorem dX10_nearest_14 : decode cX10_nearest 14 = .ok (.invokevirtual 156, 3) := by decide +kernel
theorem dX10_nearest_17 : decode cX10_nearest 17 = .ok (.ifCond .eq 5, 3) := by decide +kernel
theorem dX10_nearest_20 : decode cX10_nearest 20 = .ok (.iconst 0, 1) := by decide +kernel
theorem dX10_nearest_21 : decode cX10_nearest 21 = .ok (.ireturn, 1) := by decide +kernel
theorem dX10_nearest_22 : decode cX10_nearest 22 = .ok (.aload_n 0, 1) := by decide +kernel
theorem dX10_nearest_23 : decode cX10_nearest 23 = .ok (.iload_n 1, 1) := by decide +kernel
theorem dX10_nearest_24 : decode cX10_nearest 24 = .ok (.invokevirtual 73, 3) := by decide +kernel
theorem dX10_nearest_27 : decode cX10_nearest 27 = .ok (.ifCond .eq 23, 3) := by decide +kernel
theorem dX10_nearest_30 : decode cX10_nearest 30 = .ok (.aload_n 0, 1) := by decide +kernel
theorem dX10_nearest_31 : decode cX10_nearest 31 = .ok (.iload_n 1, 1) := by decide +kernel
theorem dX10_nearest_32 : decode cX10_nearest 32 = .ok (.aload_n 0, 1) := by decide +kernel
theorem dX10_nearest_33 : decode cX10_nearest 33 = .ok (.iload_n 1, 1) := by decide +kernel
theorem dX10_nearest_34 : decode cX10_nearest 34 = .ok (.iconst 3, 1) := by decide +kernel
theorem dX10_nearest_35 : decode cX10_nearest 35 = .ok (.invokevirtual 69, 3) := by decide +kernel
theorem dX10_nearest_38 : decode cX10_nearest 38 = .ok (.aload_n 0, 1) := by decide +kernel
theorem dX10_nearest_39 : decode cX10_nearest 39 = .ok (.iload_n 1, 1) := by decide +kernel
theorem dX10_nearest_40 : decode cX10_nearest 40 = .ok (.iconst 4, 1) := by decide +kernel
theorem dX10_nearest_41 : decode cX10_nearest 41 = .ok (.invokevirtual 69, 3) := by decide +kernel
theorem dX10_nearest_44 : decode cX10_nearest 44 = .ok (.invokevirtual 83, 3) := by decide +kernel
theorem dX10_nearest_47 : decode cX10_nearest 47 = .ok (.goto 5, 3) := by decide +kernel
theorem dX10_nearest_50 : decode cX10_nearest 50 = .ok (.bipush 99, 2) := by decide +kernel
theorem dX10_nearest_52 : decode cX10_nearest 52 = .ok (.istore_n 2, 1) := by decide +kernel
theorem dX10_nearest_53 : decode cX10_nearest 53 = .ok (.aload_n 0, 1) := by decide +kernel
theorem dX10_nearest_54 : decode cX10_nearest 54 = .ok (.iload_n 2, 1) := by decide +kernel
theorem dX10_nearest_55 : decode cX10_nearest 55 = .ok (.bipush 99, 2) := by decide +kernel
theorem dX10_nearest_57 : decode cX10_nearest 57 = .ok (.if_icmp .ne 7, 3) := by decide +kernel
theorem dX10_nearest_60 : decode cX10_nearest 60 = .ok (.iconst 2, 1) := by decide +kernel
theorem dX10_nearest_61 : decode cX10_nearest 61 = .ok (.goto 4, 3) := by decide +kernel
theorem dX10_nearest_64 : decode cX10_nearest 64 = .ok (.iconst 0, 1) := by decide +kernel
theorem dX10_nearest_65 : decode cX10_nearest 65 = .ok (.invokevirtual 156, 3) := by decide +kernel
theorem dX10_nearest_68 : decode cX10_nearest 68 = .ok (.ifCond .eq 7, 3) := by decide +kernel
theorem dX10_nearest_71 : decode cX10_nearest 71 = .ok (.iconst 0, 1) := by decide +kernel
theorem dX10_nearest_72 : decode cX10_nearest 72 = .ok (.goto 4, 3) := by decide +kernel
theorem dX10_nearest_75 : decode cX10_nearest 75 = .ok (.iload_n 2, 1) := by decide +kernel
theorem dX10_nearest_76 : decode cX10_nearest 76 = .ok (.ireturn, 1) := by decide +kernel
theorem dX10_isCrowded_0 : decode cX10_isCrowded 0 = .ok (.aload_n 0, 1) := by decide +kernel
theorem dX10_isCrowded_1 : decode cX10_isCrowded 1 = .ok (.aload_n 0, 1) := by decide +kernel
theorem dX10_isCrowded_2 : decode cX10_isCrowded 2 = .ok (.iload_n 1, 1) := by decide +kernel
theorem dX10_isCrowded_3 : decode cX10_isCrowded 3 = .ok (.invokevirtual 121, 3) := by decide +kernel
theorem dX10_isCrowded_6 : decode cX10_isCrowded 6 = .ok (.ifCond .eq 7, 3) := by decide +kernel
theorem dX10_isCrowded_9 : decode cX10_isCrowded 9 = .ok (.iconst 0, 1) := by decide +kernel
theorem dX10_isCrowded_10 : decode cX10_isCrowded 10 = .ok (.goto 4, 3) := by decide +kernel
theorem dX10_isCrowded_13 : decode cX10_isCrowded 13 = .ok (.iconst 1, 1) := by decide +kernel
theorem dX10_isCrowded_14 : decode cX10_isCrowded 14 = .ok (.invokevirtual 156, 3) := by decide +kernel
theorem dX10_isCrowded_17 : decode cX10_isCrowded 17 = .ok (.ifCond .ne 15, 3) := by decide +kernel
theorem dX10_isCrowded_20 : decode cX10_isCrowded 20 = .ok (.aload_n 0, 1) := by decide +kernel
theorem dX10_isCrowded_21 : decode cX10_isCrowded 21 = .ok (.iload_n 1, 1) := by decide +kernel
theorem dX10_isCrowded_22 : decode cX10_isCrowded 22 = .ok (.invokevirtual 100, 3) := by decide +kernel
theorem dX10_isCrowded_25 : decode cX10_isCrowded 25 = .ok (.ifCond .eq 7, 3) := by decide +kernel
theorem dX10_isCrowded_28 : decode cX10_isCrowded 28 = .ok (.iconst 1, 1) := by decide +kernel
theorem dX10_isCrowded_29 : decode cX10_isCrowded 29 = .ok (.goto 4, 3) := by decide +kernel
theorem dX10_isCrowded_32 : decode cX10_isCrowded 32 = .ok (.iconst 0, 1) := by decide +kernel
theorem dX10_isCrowded_33 : decode cX10_isCrowded 33 = .ok (.ireturn, 1) := by decide +kernel
theorem dX10_isDone_0 : decode cX10_isDone 0 = .ok (.aload_n 0, 1) := by decide +kernel
theorem dX10_isDone_1 : decode cX10_isDone 1 = .ok (.aload_n 0, 1) := by decide +kernel
theorem dX10_isDone_2 : decode cX10_isDone 2 = .ok (.iload_n 1, 1) := by decide +kernel
theorem dX10_isDone_3 : decode cX10_isDone 3 = .ok (.invokevirtual 121, 3) := by decide +kernel
theorem dX10_isDone_6 : decode cX10_isDone 6 = .ok (.ifCond .eq 7, 3) := by decide +kernel
theorem dX10_isDone_9 : decode cX10_isDone 9 = .ok (.iconst 0, 1) := by decide +kernel
theorem dX10_isDone_10 : decode cX10_isDone 10 = .ok (.goto 4, 3) := by decide +kernel
theorem dX10_isDone_13 : decode cX10_isDone 13 = .ok (.iconst 1, 1) := by decide +kernel
theorem dX10_isDone_14 : decode cX10_isDone 14 = .ok (.invokevirtual 156, 3) := by decide +kernel
theorem dX10_isDone_17 : decode cX10_isDone 17 = .ok (.ifCond .ne 15, 3) := by decide +kernel
theorem dX10_isDone_20 : decode cX10_isDone 20 = .ok (.aload_n 0, 1) := by decide +kernel
theorem dX10_isDone_21 : decode cX10_isDone 21 = .ok (.iload_n 1, 1) := by decide +kernel
theorem dX10_isDone_22 : decode cX10_isDone 22 = .ok (.invokevirtual 147, 3) := by decide +kernel
theorem dX10_isDone_25 : decode cX10_isDone 25 = .ok (.ifCond .eq 7, 3) := by decide +kernel
theorem dX10_isDone_28 : decode cX10_isDone 28 = .ok (.iconst 1, 1) := by decide +kernel
theorem dX10_isDone_29 : decode cX10_isDone 29 = .ok (.goto 4, 3) := by decide +kernel
theorem dX10_isDone_32 : decode cX10_isDone 32 = .ok (.iconst 0, 1) := by decide +kernel
theorem dX10_isDone_33 : decode cX10_isDone 33 = .ok (.ireturn, 1) := by decide +kernel
theorem dX10_wouldChar_0 : decode cX10_wouldChar 0 = .ok (.aload_n 0, 1) := by decide +kernel
theorem dX10_wouldChar_1 : decode cX10_wouldChar 1 = .ok (.aload_n 0, 1) := by decide +kernel
theorem dX10_wouldChar_2 : decode cX10_wouldChar 2 = .ok (.iload_n 1, 1) := by decide +kernel
theorem dX10_wouldChar_3 : decode cX10_wouldChar 3 = .ok (.invokevirtual 121, 3) := by decide +kernel
theorem dX10_wouldChar_6 : decode cX10_wouldChar 6 = .ok (.ifCond .ne 7, 3) := by decide +kernel
theorem dX10_wouldChar_9 : decode cX10_wouldChar 9 = .ok (.iconst 1, 1) := by decide +kernel
theorem dX10_wouldChar_10 : decode cX10_wouldChar 10 = .ok (.goto 18, 3) := by decide +kernel
theorem dX10_wouldChar_13 : decode cX10_wouldChar 13 = .ok (.iload_n 2, 1) := by decide +kernel
theorem dX10_wouldChar_14 : decode cX10_wouldChar 14 = .ok (.iconst 0, 1) := by decide +kernel
theorem dX10_wouldChar_15 : decode cX10_wouldChar 15 = .ok (.bipush 24, 2) := by decide +kernel
theorem dX10_wouldChar_17 : decode cX10_wouldChar 17 = .ok (.invokestatic 65, 3) := by decide +kernel
theorem dX10_wouldChar_20 : decode cX10_wouldChar 20 = .ok (.ifCond .eq 7, 3) := by decide +kernel
theorem dX10_wouldChar_23 : decode cX10_wouldChar 23 = .ok (.iconst 0, 1) := by decide +kernel
theorem dX10_wouldChar_24 : decode cX10_wouldChar 24 = .ok (.goto 4, 3) := by decide +kernel
theorem dX10_wouldChar_27 : decode cX10_wouldChar 27 = .ok (.iconst 2, 1) := by decide +kernel
theorem dX10_wouldChar_28 : decode cX10_wouldChar 28 = .ok (.invokevirtual 156, 3) := by decide +kernel
theorem dX10_wouldChar_31 : decode cX10_wouldChar 31 = .ok (.ifCond .eq 5, 3) := by decide +kernel
theorem dX10_wouldChar_34 : decode cX10_wouldChar 34 = .ok (.iconst 0, 1) := by decide +kernel
theorem dX10_wouldChar_35 : decode cX10_wouldChar 35 = .ok (.ireturn, 1) := by decide +kernel
theorem dX10_wouldChar_36 : decode cX10_wouldChar 36 = .ok (.aload_n 0, 1) := by decide +kernel
theorem dX10_wouldChar_37 : decode cX10_wouldChar 37 = .ok (.getfield 7, 3) := by decide +kernel
theorem dX10_wouldChar_40 : decode cX10_wouldChar 40 = .ok (.iconst 0, 1) := by decide +kernel
theorem dX10_wouldChar_41 : decode cX10_wouldChar 41 = .ok (.aload_n 0, 1) := by decide +kernel
theorem dX10_wouldChar_42 : decode cX10_wouldChar 42 = .ok (.getfield 22, 3) := by decide +kernel
theorem dX10_wouldChar_45 : decode cX10_wouldChar 45 = .ok (.iconst 0, 1) := by decide +kernel
theorem dX10_wouldChar_46 : decode cX10_wouldChar 46 = .ok (.invokestatic 61, 3) := by decide +kernel
theorem dX10_wouldChar_49 : decode cX10_wouldChar 49 = .ok (.iconst 0, 1) := by decide +kernel
theorem dX10_wouldChar_50 : decode cX10_wouldChar 50 = .ok (.istore_n 3, 1) := by decide +kernel
theorem dX10_wouldChar_51 : decode cX10_wouldChar 51 = .ok (.iload_n 3, 1) := by decide +kernel
theorem dX10_wouldChar_52 : decode cX10_wouldChar 52 = .ok (.iload_n 2, 1) := by decide +kernel
theorem dX10_wouldChar_53 : decode cX10_wouldChar 53 = .ok (.if_icmp .ge 13, 3) := by decide +kernel
theorem dX10_wouldChar_56 : decode cX10_wouldChar 56 = .ok (.aload_n 0, 1) := by decide +kernel
theorem dX10_wouldChar_57 : decode cX10_wouldChar 57 = .ok (.invokevirtual 140, 3) := by decide +kernel
theorem dX10_wouldChar_60 : decode cX10_wouldChar 60 = .ok (.iinc 3 1, 3) := by decide +kernel
theorem dX10_wouldChar_63 : decode cX10_wouldChar 63 = .ok (.goto (-12), 3) := by decide +kernel
theorem dX10_wouldChar_66 : decode cX10_wouldChar 66 = .ok (.aload_n 0, 1) := by decide +kernel
theorem dX10_wouldChar_67 : decode cX10_wouldChar 67 = .ok (.iload_n 1, 1) := by decide +kernel
theorem dX10_wouldChar_68 : decode cX10_wouldChar 68 = .ok (.bipush 9, 2) := by decide +kernel
theorem dX10_wouldChar_70 : decode cX10_wouldChar 70 = .ok (.aload_n 0, 1) := by decide +kernel
theorem dX10_wouldChar_71 : decode cX10_wouldChar 71 = .ok (.iload_n 1, 1) := by decide +kernel
theorem dX10_wouldChar_72 : decode cX10_wouldChar 72 = .ok (.iconst 5, 1) := by decide +kernel
theorem dX10_wouldChar_73 : decode cX10_wouldChar 73 = .ok (.invokevirtual 69, 3) := by decide +kernel
theorem dX10_wouldChar_76 : decode cX10_wouldChar 76 = .ok (.iadd, 1) := by decide +kernel
theorem dX10_wouldChar_77 : decode cX10_wouldChar 77 = .ok (.invokevirtual 69, 3) := by decide +kernel
theorem dX10_wouldChar_80 : decode cX10_wouldChar 80 = .ok (.istore_n 3, 1) := by decide +kernel
theorem dX10_wouldChar_81 : decode cX10_wouldChar 81 = .ok (.aload_n 0, 1) := by decide +kernel
theorem dX10_wouldChar_82 : decode cX10_wouldChar 82 = .ok (.getfield 22, 3) := by decide +kernel
theorem dX10_wouldChar_85 : decode cX10_wouldChar 85 = .ok (.iconst 0, 1) := by decide +kernel
theorem dX10_wouldChar_86 : decode cX10_wouldChar 86 = .ok (.aload_n 0, 1) := by decide +kernel
theorem dX10_wouldChar_87 : decode cX10_wouldChar 87 = .ok (.getfield 7, 3) := by decide +kernel
theorem dX10_wouldChar_90 : decode cX10_wouldChar 90 = .ok (.iconst 0, 1) := by decide +kernel
theorem dX10_wouldChar_91 : decode cX10_wouldChar 91 = .ok (.invokestatic 61, 3) := by decide +kernel
theorem dX10_wouldChar_94 : decode cX10_wouldChar 94 = .ok (.iload_n 3, 1) := by decide +kernel
theorem dX10_wouldChar_95 : decode cX10_wouldChar 95 = .ok (.ireturn, 1) := by decide +kernel
theorem dX10_wouldCharAgain_0 : decode cX10_wouldCharAgain 0 = .ok (.aload_n 0, 1) := by decide +kernel
theorem dX10_wouldCharAgain_1 : decode cX10_wouldCharAgain 1 = .ok (.iload_n 1, 1) := by decide +kernel
theorem dX10_wouldCharAgain_2 : decode cX10_wouldCharAgain 2 = .ok (.iload_n 2, 1) := by decide +kernel
theorem dX10_wouldCharAgain_3 : decode cX10_wouldCharAgain 3 = .ok (.invokevirtual 159, 3) := by decide +kernel
theorem dX10_wouldCharAgain_6 : decode cX10_wouldCharAgain 6 = .ok (.ireturn, 1) := by decide +kernel
theorem dX10_burns_0 : decode cX10_burns 0 = .ok (.aload_n 0, 1) := by decide +kernel
theorem dX10_burns_1 : decode cX10_burns 1 = .ok (.getfield 7, 3) := by decide +kernel
theorem dX10_burns_4 : decode cX10_burns 4 = .ok (.iconst 0, 1) := by decide +kernel
theorem dX10_burns_5 : decode cX10_burns 5 = .ok (.aload_n 0, 1) := by decide +kernel
theorem dX10_burns_6 : decode cX10_burns 6 = .ok (.getfield 22, 3) := by decide +kernel
theorem dX10_burns_9 : decode cX10_burns 9 = .ok (.iconst 0, 1) := by decide +kernel
theorem dX10_burns_10 : decode cX10_burns 10 = .ok (.invokestatic 61, 3) := by decide +kernel
theorem dX10_burns_13 : decode cX10_burns 13 = .ok (.iconst 0, 1) := by decide +kernel
theorem dX10_burns_14 : decode cX10_burns 14 = .ok (.istore_n 2, 1) := by decide +kernel
theorem dX10_burns_15 : decode cX10_burns 15 = .ok (.aload_n 0, 1) := by decide +kernel
theorem dX10_burns_16 : decode cX10_burns 16 = .ok (.iload_n 1, 1) := by decide +kernel
theorem dX10_burns_17 : decode cX10_burns 17 = .ok (.invokevirtual 91, 3) := by decide +kernel
theorem dX10_burns_20 : decode cX10_burns 20 = .ok (.ifCond .ne 22, 3) := by decide +kernel
theorem dX10_burns_23 : decode cX10_burns 23 = .ok (.aload_n 0, 1) := by decide +kernel
theorem dX10_burns_24 : decode cX10_burns 24 = .ok (.getfield 7, 3) := by decide +kernel
theorem dX10_burns_27 : decode cX10_burns 27 = .ok (.iconst 1, 1) := by decide +kernel
theorem dX10_burns_28 : decode cX10_burns 28 = .ok (.iaload, 1) := by decide +kernel
theorem dX10_burns_29 : decode cX10_burns 29 = .ok (.ifCond .le 13, 3) := by decide +kernel
theorem dX10_burns_32 : decode cX10_burns 32 = .ok (.aload_n 0, 1) := by decide +kernel
theorem dX10_burns_33 : decode cX10_burns 33 = .ok (.invokevirtual 140, 3) := by decide +kernel
theorem dX10_burns_36 : decode cX10_burns 36 = .ok (.iinc 2 1, 3) := by decide +kernel
theorem dX10_burns_39 : decode cX10_burns 39 = .ok (.goto (-24), 3) := by decide +kernel
theorem dX10_burns_42 : decode cX10_burns 42 = .ok (.aload_n 0, 1) := by decide +kernel
theorem dX10_burns_43 : decode cX10_burns 43 = .ok (.iload_n 1, 1) := by decide +kernel
theorem dX10_burns_44 : decode cX10_burns 44 = .ok (.invokevirtual 91, 3) := by decide +kernel
theorem dX10_burns_47 : decode cX10_burns 47 = .ok (.istore_n 3, 1) := by decide +kernel
theorem dX10_burns_48 : decode cX10_burns 48 = .ok (.aload_n 0, 1) := by decide +kernel
theorem dX10_burns_49 : decode cX10_burns 49 = .ok (.getfield 22, 3) := by decide +kernel
theorem dX10_burns_52 : decode cX10_burns 52 = .ok (.iconst 0, 1) := by decide +kernel
theorem dX10_burns_53 : decode cX10_burns 53 = .ok (.aload_n 0, 1) := by decide +kernel
theorem dX10_burns_54 : decode cX10_burns 54 = .ok (.getfield 7, 3) := by decide +kernel
theorem dX10_burns_57 : decode cX10_burns 57 = .ok (.iconst 0, 1) := by decide +kernel
theorem dX10_burns_58 : decode cX10_burns 58 = .ok (.invokestatic 61, 3) := by decide +kernel
theorem dX10_burns_61 : decode cX10_burns 61 = .ok (.iload_n 3, 1) := by decide +kernel
theorem dX10_burns_62 : decode cX10_burns 62 = .ok (.ifCond .eq 7, 3) := by decide +kernel
theorem dX10_burns_65 : decode cX10_burns 65 = .ok (.iload_n 2, 1) := by decide +kernel
theorem dX10_burns_66 : decode cX10_burns 66 = .ok (.goto 5, 3) := by decide +kernel
theorem dX10_burns_69 : decode cX10_burns 69 = .ok (.bipush 99, 2) := by decide +kernel
theorem dX10_burns_71 : decode cX10_burns 71 = .ok (.ireturn, 1) := by decide +kernel
theorem dX10_burnsIn_0 : decode cX10_burnsIn 0 = .ok (.aload_n 0, 1) := by decide +kernel
theorem dX10_burnsIn_1 : decode cX10_burnsIn 1 = .ok (.aload_n 0, 1) := by decide +kernel
theorem dX10_burnsIn_2 : decode cX10_burnsIn 2 = .ok (.iload_n 1, 1) := by decide +kernel
theorem dX10_burnsIn_3 : decode cX10_burnsIn 3 = .ok (.invokevirtual 121, 3) := by decide +kernel
theorem dX10_burnsIn_6 : decode cX10_burnsIn 6 = .ok (.ifCond .eq 7, 3) := by decide +kernel
theorem dX10_burnsIn_9 : decode cX10_burnsIn 9 = .ok (.iconst 0, 1) := by decide +kernel
theorem dX10_burnsIn_10 : decode cX10_burnsIn 10 = .ok (.goto 4, 3) := by decide +kernel
theorem dX10_burnsIn_13 : decode cX10_burnsIn 13 = .ok (.iconst 1, 1) := by decide +kernel
theorem dX10_burnsIn_14 : decode cX10_burnsIn 14 = .ok (.invokevirtual 156, 3) := by decide +kernel
theorem dX10_burnsIn_17 : decode cX10_burnsIn 17 = .ok (.ifCond .eq 5, 3) := by decide +kernel
theorem dX10_burnsIn_20 : decode cX10_burnsIn 20 = .ok (.iconst 0, 1) := by decide +kernel
theorem dX10_burnsIn_21 : decode cX10_burnsIn 21 = .ok (.ireturn, 1) := by decide +kernel
theorem dX10_burnsIn_22 : decode cX10_burnsIn 22 = .ok (.aload_n 0, 1) := by decide +kernel
theorem dX10_burnsIn_23 : decode cX10_burnsIn 23 = .ok (.iload_n 1, 1) := by decide +kernel
theorem dX10_burnsIn_24 : decode cX10_burnsIn 24 = .ok (.invokevirtual 162, 3) := by decide +kernel
theorem dX10_burnsIn_27 : decode cX10_burnsIn 27 = .ok (.istore_n 2, 1) := by decide +kernel
theorem dX10_burnsIn_28 : decode cX10_burnsIn 28 = .ok (.aload_n 0, 1) := by decide +kernel
theorem dX10_burnsIn_29 : decode cX10_burnsIn 29 = .ok (.iload_n 2, 1) := by decide +kernel
theorem dX10_burnsIn_30 : decode cX10_burnsIn 30 = .ok (.bipush 99, 2) := by decide +kernel
theorem dX10_burnsIn_32 : decode cX10_burnsIn 32 = .ok (.if_icmp .ne 7, 3) := by decide +kernel
theorem dX10_burnsIn_35 : decode cX10_burnsIn 35 = .ok (.iconst 2, 1) := by decide +kernel
theorem dX10_burnsIn_36 : decode cX10_burnsIn 36 = .ok (.goto 4, 3) := by decide +kernel
theorem dX10_burnsIn_39 : decode cX10_burnsIn 39 = .ok (.iconst 0, 1) := by decide +kernel
theorem dX10_burnsIn_40 : decode cX10_burnsIn 40 = .ok (.invokevirtual 156, 3) := by decide +kernel
theorem dX10_burnsIn_43 : decode cX10_burnsIn 43 = .ok (.ifCond .eq 7, 3) := by decide +kernel
theorem dX10_burnsIn_46 : decode cX10_burnsIn 46 = .ok (.iconst 0, 1) := by decide +kernel
theorem dX10_burnsIn_47 : decode cX10_burnsIn 47 = .ok (.goto 4, 3) := by decide +kernel
theorem dX10_burnsIn_50 : decode cX10_burnsIn 50 = .ok (.iload_n 2, 1) := by decide +kernel
theorem dX10_burnsIn_51 : decode cX10_burnsIn 51 = .ok (.ireturn, 1) := by decide +kernel
theorem dX10_doneIn_0 : decode cX10_doneIn 0 = .ok (.aload_n 0, 1) := by decide +kernel
theorem dX10_doneIn_1 : decode cX10_doneIn 1 = .ok (.aload_n 0, 1) := by decide +kernel
theorem dX10_doneIn_2 : decode cX10_doneIn 2 = .ok (.iload_n 1, 1) := by decide +kernel
theorem dX10_doneIn_3 : decode cX10_doneIn 3 = .ok (.invokevirtual 121, 3) := by decide +kernel
theorem dX10_doneIn_6 : decode cX10_doneIn 6 = .ok (.ifCond .eq 7, 3) := by decide +kernel
theorem dX10_doneIn_9 : decode cX10_doneIn 9 = .ok (.iconst 0, 1) := by decide +kernel
theorem dX10_doneIn_10 : decode cX10_doneIn 10 = .ok (.goto 4, 3) := by decide +kernel
theorem dX10_doneIn_13 : decode cX10_doneIn 13 = .ok (.iconst 1, 1) := by decide +kernel
theorem dX10_doneIn_14 : decode cX10_doneIn 14 = .ok (.invokevirtual 156, 3) := by decide +kernel
theorem dX10_doneIn_17 : decode cX10_doneIn 17 = .ok (.ifCond .eq 5, 3) := by decide +kernel
theorem dX10_doneIn_20 : decode cX10_doneIn 20 = .ok (.iconst 0, 1) := by decide +kernel
theorem dX10_doneIn_21 : decode cX10_doneIn 21 = .ok (.ireturn, 1) := by decide +kernel
theorem dX10_doneIn_22 : decode cX10_doneIn 22 = .ok (.aload_n 0, 1) := by decide +kernel
theorem dX10_doneIn_23 : decode cX10_doneIn 23 = .ok (.getfield 7, 3) := by decide +kernel
theorem dX10_doneIn_26 : decode cX10_doneIn 26 = .ok (.iconst 0, 1) := by decide +kernel
theorem dX10_doneIn_27 : decode cX10_doneIn 27 = .ok (.aload_n 0, 1) := by decide +kernel
theorem dX10_doneIn_28 : decode cX10_doneIn 28 = .ok (.getfield 22, 3) := by decide +kernel
theorem dX10_doneIn_31 : decode cX10_doneIn 31 = .ok (.iconst 0, 1) := by decide +kernel
theorem dX10_doneIn_32 : decode cX10_doneIn 32 = .ok (.invokestatic 61, 3) := by decide +kernel
theorem dX10_doneIn_35 : decode cX10_doneIn 35 = .ok (.iconst 0, 1) := by decide +kernel
theorem dX10_doneIn_36 : decode cX10_doneIn 36 = .ok (.istore_n 2, 1) := by decide +kernel
theorem dX10_doneIn_37 : decode cX10_doneIn 37 = .ok (.aload_n 0, 1) := by decide +kernel
theorem dX10_doneIn_38 : decode cX10_doneIn 38 = .ok (.iload_n 1, 1) := by decide +kernel
theorem dX10_doneIn_39 : decode cX10_doneIn 39 = .ok (.invokevirtual 147, 3) := by decide +kernel
theorem dX10_doneIn_42 : decode cX10_doneIn 42 = .ok (.ifCond .ne 35, 3) := by decide +kernel
theorem dX10_doneIn_45 : decode cX10_doneIn 45 = .ok (.aload_n 0, 1) := by decide +kernel
theorem dX10_doneIn_46 : decode cX10_doneIn 46 = .ok (.iload_n 1, 1) := by decide +kernel
theorem dX10_doneIn_47 : decode cX10_doneIn 47 = .ok (.invokevirtual 73, 3) := by decide +kernel
theorem dX10_doneIn_50 : decode cX10_doneIn 50 = .ok (.ifCond .eq 27, 3) := by decide +kernel
theorem dX10_doneIn_53 : decode cX10_doneIn 53 = .ok (.aload_n 0, 1) := by decide +kernel
theorem dX10_doneIn_54 : decode cX10_doneIn 54 = .ok (.getfield 7, 3) := by decide +kernel
theorem dX10_doneIn_57 : decode cX10_doneIn 57 = .ok (.iconst 1, 1) := by decide +kernel
theorem dX10_doneIn_58 : decode cX10_doneIn 58 = .ok (.iaload, 1) := by decide +kernel
theorem dX10_doneIn_59 : decode cX10_doneIn 59 = .ok (.ifCond .le 18, 3) := by decide +kernel
theorem dX10_doneIn_62 : decode cX10_doneIn 62 = .ok (.aload_n 0, 1) := by decide +kernel
theorem dX10_doneIn_63 : decode cX10_doneIn 63 = .ok (.iload_n 1, 1) := by decide +kernel
theorem dX10_doneIn_64 : decode cX10_doneIn 64 = .ok (.invokevirtual 137, 3) := by decide +kernel
theorem dX10_doneIn_67 : decode cX10_doneIn 67 = .ok (.aload_n 0, 1) := by decide +kernel
theorem dX10_doneIn_68 : decode cX10_doneIn 68 = .ok (.invokevirtual 140, 3) := by decide +kernel
theorem dX10_doneIn_71 : decode cX10_doneIn 71 = .ok (.iinc 2 1, 3) := by decide +kernel
theorem dX10_doneIn_74 : decode cX10_doneIn 74 = .ok (.goto (-37), 3) := by decide +kernel
theorem dX10_doneIn_77 : decode cX10_doneIn 77 = .ok (.aload_n 0, 1) := by decide +kernel
theorem dX10_doneIn_78 : decode cX10_doneIn 78 = .ok (.iload_n 1, 1) := by decide +kernel
theorem dX10_doneIn_79 : decode cX10_doneIn 79 = .ok (.invokevirtual 147, 3) := by decide +kernel
theorem dX10_doneIn_82 : decode cX10_doneIn 82 = .ok (.istore_n 3, 1) := by decide +kernel
theorem dX10_doneIn_83 : decode cX10_doneIn 83 = .ok (.aload_n 0, 1) := by decide +kernel
theorem dX10_doneIn_84 : decode cX10_doneIn 84 = .ok (.getfield 22, 3) := by decide +kernel
theorem dX10_doneIn_87 : decode cX10_doneIn 87 = .ok (.iconst 0, 1) := by decide +kernel
theorem dX10_doneIn_88 : decode cX10_doneIn 88 = .ok (.aload_n 0, 1) := by decide +kernel
theorem dX10_doneIn_89 : decode cX10_doneIn 89 = .ok (.getfield 7, 3) := by decide +kernel
theorem dX10_doneIn_92 : decode cX10_doneIn 92 = .ok (.iconst 0, 1) := by decide +kernel
theorem dX10_doneIn_93 : decode cX10_doneIn 93 = .ok (.invokestatic 61, 3) := by decide +kernel
theorem dX10_doneIn_96 : decode cX10_doneIn 96 = .ok (.aload_n 0, 1) := by decide +kernel
theorem dX10_doneIn_97 : decode cX10_doneIn 97 = .ok (.iload_n 3, 1) := by decide +kernel
theorem dX10_doneIn_98 : decode cX10_doneIn 98 = .ok (.ifCond .eq 7, 3) := by decide +kernel
theorem dX10_doneIn_101 : decode cX10_doneIn 101 = .ok (.iconst 0, 1) := by decide +kernel
theorem dX10_doneIn_102 : decode cX10_doneIn 102 = .ok (.goto 4, 3) := by decide +kernel
theorem dX10_doneIn_105 : decode cX10_doneIn 105 = .ok (.iconst 2, 1) := by decide +kernel
theorem dX10_doneIn_106 : decode cX10_doneIn 106 = .ok (.invokevirtual 156, 3) := by decide +kernel
theorem dX10_doneIn_109 : decode cX10_doneIn 109 = .ok (.ifCond .eq 7, 3) := by decide +kernel
theorem dX10_doneIn_112 : decode cX10_doneIn 112 = .ok (.iconst 0, 1) := by decide +kernel
theorem dX10_doneIn_113 : decode cX10_doneIn 113 = .ok (.goto 4, 3) := by decide +kernel
theorem dX10_doneIn_116 : decode cX10_doneIn 116 = .ok (.iload_n 2, 1) := by decide +kernel
theorem dX10_doneIn_117 : decode cX10_doneIn 117 = .ok (.ireturn, 1) := by decide +kernel
theorem dX10_hottest_0 : decode cX10_hottest 0 = .ok (.iconst (-1), 1) := by decide +kernel
theorem dX10_hottest_1 : decode cX10_hottest 1 = .ok (.istore_n 1, 1) := by decide +kernel
theorem dX10_hottest_2 : decode cX10_hottest 2 = .ok (.bipush 99, 2) := by decide +kernel
theorem dX10_hottest_4 : decode cX10_hottest 4 = .ok (.istore_n 2, 1) := by decide +kernel
theorem dX10_hottest_5 : decode cX10_hottest 5 = .ok (.iconst 0, 1) := by decide +kernel
theorem dX10_hottest_6 : decode cX10_hottest 6 = .ok (.istore_n 3, 1) := by decide +kernel
theorem dX10_hottest_7 : decode cX10_hottest 7 = .ok (.iload_n 3, 1) := by decide +kernel
theorem dX10_hottest_8 : decode cX10_hottest 8 = .ok (.aload_n 0, 1) := by decide +kernel
theorem dX10_hottest_9 : decode cX10_hottest 9 = .ok (.getfield 7, 3) := by decide +kernel
theorem dX10_hottest_12 : decode cX10_hottest 12 = .ok (.iconst 0, 1) := by decide +kernel
theorem dX10_hottest_13 : decode cX10_hottest 13 = .ok (.iaload, 1) := by decide +kernel
theorem dX10_hottest_14 : decode cX10_hottest 14 = .ok (.if_icmp .ge 43, 3) := by decide +kernel
theorem dX10_hottest_17 : decode cX10_hottest 17 = .ok (.aload_n 0, 1) := by decide +kernel
theorem dX10_hottest_18 : decode cX10_hottest 18 = .ok (.iload_n 3, 1) := by decide +kernel
theorem dX10_hottest_19 : decode cX10_hottest 19 = .ok (.invokevirtual 91, 3) := by decide +kernel
theorem dX10_hottest_22 : decode cX10_hottest 22 = .ok (.ifCond .eq 8, 3) := by decide +kernel
theorem dX10_hottest_25 : decode cX10_hottest 25 = .ok (.bipush 99, 2) := by decide +kernel
theorem dX10_hottest_27 : decode cX10_hottest 27 = .ok (.goto 8, 3) := by decide +kernel
theorem dX10_hottest_30 : decode cX10_hottest 30 = .ok (.aload_n 0, 1) := by decide +kernel
theorem dX10_hottest_31 : decode cX10_hottest 31 = .ok (.iload_n 3, 1) := by decide +kernel
theorem dX10_hottest_32 : decode cX10_hottest 32 = .ok (.invokevirtual 162, 3) := by decide +kernel
theorem dX10_hottest_35 : decode cX10_hottest 35 = .ok (.istore 4, 2) := by decide +kernel
theorem dX10_hottest_37 : decode cX10_hottest 37 = .ok (.iload 4, 2) := by decide +kernel
theorem dX10_hottest_39 : decode cX10_hottest 39 = .ok (.iload_n 2, 1) := by decide +kernel
theorem dX10_hottest_40 : decode cX10_hottest 40 = .ok (.if_icmp .lt 6, 3) := by decide +kernel
theorem dX10_hottest_43 : decode cX10_hottest 43 = .ok (.goto 8, 3) := by decide +kernel
theorem dX10_hottest_46 : decode cX10_hottest 46 = .ok (.iload 4, 2) := by decide +kernel
theorem dX10_hottest_48 : decode cX10_hottest 48 = .ok (.istore_n 2, 1) := by decide +kernel
theorem dX10_hottest_49 : decode cX10_hottest 49 = .ok (.iload_n 3, 1) := by decide +kernel
theorem dX10_hottest_50 : decode cX10_hottest 50 = .ok (.istore_n 1, 1) := by decide +kernel
theorem dX10_hottest_51 : decode cX10_hottest 51 = .ok (.iinc 3 1, 3) := by decide +kernel
theorem dX10_hottest_54 : decode cX10_hottest 54 = .ok (.goto (-47), 3) := by decide +kernel
theorem dX10_hottest_57 : decode cX10_hottest 57 = .ok (.aload_n 0, 1) := by decide +kernel
theorem dX10_hottest_58 : decode cX10_hottest 58 = .ok (.iload_n 1, 1) := by decide +kernel
theorem dX10_hottest_59 : decode cX10_hottest 59 = .ok (.ifCond .ge 7, 3) := by decide +kernel
theorem dX10_hottest_62 : decode cX10_hottest 62 = .ok (.iconst 1, 1) := by decide +kernel
theorem dX10_hottest_63 : decode cX10_hottest 63 = .ok (.goto 4, 3) := by decide +kernel
theorem dX10_hottest_66 : decode cX10_hottest 66 = .ok (.iconst 0, 1) := by decide +kernel
theorem dX10_hottest_67 : decode cX10_hottest 67 = .ok (.invokevirtual 156, 3) := by decide +kernel
theorem dX10_hottest_70 : decode cX10_hottest 70 = .ok (.ifCond .eq 7, 3) := by decide +kernel
theorem dX10_hottest_73 : decode cX10_hottest 73 = .ok (.iconst 0, 1) := by decide +kernel
theorem dX10_hottest_74 : decode cX10_hottest 74 = .ok (.goto 4, 3) := by decide +kernel
theorem dX10_hottest_77 : decode cX10_hottest 77 = .ok (.iload_n 1, 1) := by decide +kernel
theorem dX10_hottest_78 : decode cX10_hottest 78 = .ok (.ireturn, 1) := by decide +kernel
theorem dX10_bestHook_0 : decode cX10_bestHook 0 = .ok (.aload_n 0, 1) := by decide +kernel
theorem dX10_bestHook_1 : decode cX10_bestHook 1 = .ok (.aload_n 0, 1) := by decide +kernel
theorem dX10_bestHook_2 : decode cX10_bestHook 2 = .ok (.iload_n 1, 1) := by decide +kernel
theorem dX10_bestHook_3 : decode cX10_bestHook 3 = .ok (.invokevirtual 121, 3) := by decide +kernel
theorem dX10_bestHook_6 : decode cX10_bestHook 6 = .ok (.ifCond .eq 16, 3) := by decide +kernel
theorem dX10_bestHook_9 : decode cX10_bestHook 9 = .ok (.iload_n 2, 1) := by decide +kernel
theorem dX10_bestHook_10 : decode cX10_bestHook 10 = .ok (.iconst 0, 1) := by decide +kernel
theorem dX10_bestHook_11 : decode cX10_bestHook 11 = .ok (.iconst 3, 1) := by decide +kernel
theorem dX10_bestHook_12 : decode cX10_bestHook 12 = .ok (.invokestatic 65, 3) := by decide +kernel
theorem dX10_bestHook_15 : decode cX10_bestHook 15 = .ok (.ifCond .eq 7, 3) := by decide +kernel
theorem dX10_bestHook_18 : decode cX10_bestHook 18 = .ok (.iconst 0, 1) := by decide +kernel
theorem dX10_bestHook_19 : decode cX10_bestHook 19 = .ok (.goto 4, 3) := by decide +kernel
theorem dX10_bestHook_22 : decode cX10_bestHook 22 = .ok (.iconst 1, 1) := by decide +kernel
theorem dX10_bestHook_23 : decode cX10_bestHook 23 = .ok (.invokevirtual 156, 3) := by decide +kernel
theorem dX10_bestHook_26 : decode cX10_bestHook 26 = .ok (.ifCond .eq 5, 3) := by decide +kernel
theorem dX10_bestHook_29 : decode cX10_bestHook 29 = .ok (.iconst 0, 1) := by decide +kernel
theorem dX10_bestHook_30 : decode cX10_bestHook 30 = .ok (.ireturn, 1) := by decide +kernel
theorem dX10_bestHook_31 : decode cX10_bestHook 31 = .ok (.iconst (-1), 1) := by decide +kernel
theorem dX10_bestHook_32 : decode cX10_bestHook 32 = .ok (.istore_n 3, 1) := by decide +kernel
theorem dX10_bestHook_33 : decode cX10_bestHook 33 = .ok (.iconst 0, 1) := by decide +kernel
theorem dX10_bestHook_34 : decode cX10_bestHook 34 = .ok (.istore 4, 2) := by decide +kernel
theorem dX10_bestHook_36 : decode cX10_bestHook 36 = .ok (.iconst 0, 1) := by decide +kernel
theorem dX10_bestHook_37 : decode cX10_bestHook 37 = .ok (.istore 5, 2) := by decide +kernel
theorem dX10_bestHook_39 : decode cX10_bestHook 39 = .ok (.iload 5, 2) := by decide +kernel
theorem dX10_bestHook_41 : decode cX10_bestHook 41 = .ok (.bipush 10, 2) := by decide +kernel
theorem dX10_bestHook_43 : decode cX10_bestHook 43 = .ok (.if_icmp .ge 36, 3) := by decide +kernel
theorem dX10_bestHook_46 : decode cX10_bestHook 46 = .ok (.aload_n 0, 1) := by decide +kernel
theorem dX10_bestHook_47 : decode cX10_bestHook 47 = .ok (.iload_n 1, 1) := by decide +kernel
theorem dX10_bestHook_48 : decode cX10_bestHook 48 = .ok (.iload_n 2, 1) := by decide +kernel
theorem dX10_bestHook_49 : decode cX10_bestHook 49 = .ok (.iload 5, 2) := by decide +kernel
theorem dX10_bestHook_51 : decode cX10_bestHook 51 = .ok (.invokevirtual 83, 3) := by decide +kernel
theorem dX10_bestHook_54 : decode cX10_bestHook 54 = .ok (.istore 6, 2) := by decide +kernel
theorem dX10_bestHook_56 : decode cX10_bestHook 56 = .ok (.iload 6, 2) := by decide +kernel
theorem dX10_bestHook_58 : decode cX10_bestHook 58 = .ok (.iload 4, 2) := by decide +kernel
theorem dX10_bestHook_60 : decode cX10_bestHook 60 = .ok (.if_icmp .gt 6, 3) := by decide +kernel
theorem dX10_bestHook_63 : decode cX10_bestHook 63 = .ok (.goto 10, 3) := by decide +kernel
theorem dX10_bestHook_66 : decode cX10_bestHook 66 = .ok (.iload 6, 2) := by decide +kernel
theorem dX10_bestHook_68 : decode cX10_bestHook 68 = .ok (.istore 4, 2) := by decide +kernel
theorem dX10_bestHook_70 : decode cX10_bestHook 70 = .ok (.iload 5, 2) := by decide +kernel
theorem dX10_bestHook_72 : decode cX10_bestHook 72 = .ok (.istore_n 3, 1) := by decide +kernel
theorem dX10_bestHook_73 : decode cX10_bestHook 73 = .ok (.iinc 5 1, 3) := by decide +kernel
theorem dX10_bestHook_76 : decode cX10_bestHook 76 = .ok (.goto (-37), 3) := by decide +kernel
theorem dX10_bestHook_79 : decode cX10_bestHook 79 = .ok (.aload_n 0, 1) := by decide +kernel
theorem dX10_bestHook_80 : decode cX10_bestHook 80 = .ok (.iload_n 3, 1) := by decide +kernel
theorem dX10_bestHook_81 : decode cX10_bestHook 81 = .ok (.ifCond .ge 7, 3) := by decide +kernel
theorem dX10_bestHook_84 : decode cX10_bestHook 84 = .ok (.iconst 2, 1) := by decide +kernel
theorem dX10_bestHook_85 : decode cX10_bestHook 85 = .ok (.goto 4, 3) := by decide +kernel
theorem dX10_bestHook_88 : decode cX10_bestHook 88 = .ok (.iconst 0, 1) := by decide +kernel
theorem dX10_bestHook_89 : decode cX10_bestHook 89 = .ok (.invokevirtual 156, 3) := by decide +kernel
theorem dX10_bestHook_92 : decode cX10_bestHook 92 = .ok (.ifCond .eq 7, 3) := by decide +kernel
theorem dX10_bestHook_95 : decode cX10_bestHook 95 = .ok (.iconst 0, 1) := by decide +kernel
theorem dX10_bestHook_96 : decode cX10_bestHook 96 = .ok (.goto 4, 3) := by decide +kernel
theorem dX10_bestHook_99 : decode cX10_bestHook 99 = .ok (.iload_n 3, 1) := by decide +kernel
theorem dX10_bestHook_100 : decode cX10_bestHook 100 = .ok (.ireturn, 1) := by decide +kernel
theorem dX10_crowded_0 : decode cX10_crowded 0 = .ok (.aload_n 0, 1) := by decide +kernel
theorem dX10_crowded_1 : decode cX10_crowded 1 = .ok (.iconst 0, 1) := by decide +kernel
theorem dX10_crowded_2 : decode cX10_crowded 2 = .ok (.putfield 39, 3) := by decide +kernel
theorem dX10_crowded_5 : decode cX10_crowded 5 = .ok (.iconst 0, 1) := by decide +kernel
theorem dX10_crowded_6 : decode cX10_crowded 6 = .ok (.istore_n 1, 1) := by decide +kernel
theorem dX10_crowded_7 : decode cX10_crowded 7 = .ok (.iconst 0, 1) := by decide +kernel
theorem dX10_crowded_8 : decode cX10_crowded 8 = .ok (.istore_n 2, 1) := by decide +kernel
theorem dX10_crowded_9 : decode cX10_crowded 9 = .ok (.iload_n 2, 1) := by decide +kernel
theorem dX10_crowded_10 : decode cX10_crowded 10 = .ok (.aload_n 0, 1) := by decide +kernel
theorem dX10_crowded_11 : decode cX10_crowded 11 = .ok (.getfield 7, 3) := by decide +kernel
theorem dX10_crowded_14 : decode cX10_crowded 14 = .ok (.iconst 0, 1) := by decide +kernel
theorem dX10_crowded_15 : decode cX10_crowded 15 = .ok (.iaload, 1) := by decide +kernel
theorem dX10_crowded_16 : decode cX10_crowded 16 = .ok (.if_icmp .ge 25, 3) := by decide +kernel
theorem dX10_crowded_19 : decode cX10_crowded 19 = .ok (.iload_n 1, 1) := by decide +kernel
theorem dX10_crowded_20 : decode cX10_crowded 20 = .ok (.aload_n 0, 1) := by decide +kernel
theorem dX10_crowded_21 : decode cX10_crowded 21 = .ok (.iload_n 2, 1) := by decide +kernel
theorem dX10_crowded_22 : decode cX10_crowded 22 = .ok (.invokevirtual 100, 3) := by decide +kernel
theorem dX10_crowded_25 : decode cX10_crowded 25 = .ok (.ifCond .eq 7, 3) := by decide +kernel
theorem dX10_crowded_28 : decode cX10_crowded 28 = .ok (.iconst 1, 1) := by decide +kernel
theorem dX10_crowded_29 : decode cX10_crowded 29 = .ok (.goto 4, 3) := by decide +kernel
theorem dX10_crowded_32 : decode cX10_crowded 32 = .ok (.iconst 0, 1) := by decide +kernel
theorem dX10_crowded_33 : decode cX10_crowded 33 = .ok (.iadd, 1) := by decide +kernel
theorem dX10_crowded_34 : decode cX10_crowded 34 = .ok (.istore_n 1, 1) := by decide +kernel
theorem dX10_crowded_35 : decode cX10_crowded 35 = .ok (.iinc 2 1, 3) := by decide +kernel
theorem dX10_crowded_38 : decode cX10_crowded 38 = .ok (.goto (-29), 3) := by decide +kernel
theorem dX10_crowded_41 : decode cX10_crowded 41 = .ok (.iload_n 1, 1) := by decide +kernel
theorem dX10_crowded_42 : decode cX10_crowded 42 = .ok (.ireturn, 1) := by decide +kernel
theorem dX10_measured_0 : decode cX10_measured 0 = .ok (.iload_n 2, 1) := by decide +kernel
theorem dX10_measured_1 : decode cX10_measured 1 = .ok (.tableswitch 96 0 3 #[31, 38, 45, 61], 31) := by decide +kernel
theorem dX10_measured_32 : decode cX10_measured 32 = .ok (.aload_n 0, 1) := by decide +kernel
theorem dX10_measured_33 : decode cX10_measured 33 = .ok (.iload_n 1, 1) := by decide +kernel
theorem dX10_measured_34 : decode cX10_measured 34 = .ok (.iconst 0, 1) := by decide +kernel
theorem dX10_measured_35 : decode cX10_measured 35 = .ok (.invokevirtual 69, 3) := by decide +kernel
theorem dX10_measured_38 : decode cX10_measured 38 = .ok (.ireturn, 1) := by decide +kernel
theorem dX10_measured_39 : decode cX10_measured 39 = .ok (.aload_n 0, 1) := by decide +kernel
theorem dX10_measured_40 : decode cX10_measured 40 = .ok (.iload_n 1, 1) := by decide +kernel
theorem dX10_measured_41 : decode cX10_measured 41 = .ok (.iconst 1, 1) := by decide +kernel
theorem dX10_measured_42 : decode cX10_measured 42 = .ok (.invokevirtual 69, 3) := by decide +kernel
theorem dX10_measured_45 : decode cX10_measured 45 = .ok (.ireturn, 1) := by decide +kernel
theorem dX10_measured_46 : decode cX10_measured 46 = .ok (.aload_n 0, 1) := by decide +kernel
theorem dX10_measured_47 : decode cX10_measured 47 = .ok (.iload_n 1, 1) := by decide +kernel
theorem dX10_measured_48 : decode cX10_measured 48 = .ok (.bipush 7, 2) := by decide +kernel
theorem dX10_measured_50 : decode cX10_measured 50 = .ok (.invokevirtual 69, 3) := by decide +kernel
theorem dX10_measured_53 : decode cX10_measured 53 = .ok (.aload_n 0, 1) := by decide +kernel
theorem dX10_measured_54 : decode cX10_measured 54 = .ok (.iload_n 1, 1) := by decide +kernel
theorem dX10_measured_55 : decode cX10_measured 55 = .ok (.bipush 8, 2) := by decide +kernel
theorem dX10_measured_57 : decode cX10_measured 57 = .ok (.invokevirtual 69, 3) := by decide +kernel
theorem dX10_measured_60 : decode cX10_measured 60 = .ok (.iadd, 1) := by decide +kernel
theorem dX10_measured_61 : decode cX10_measured 61 = .ok (.ireturn, 1) := by decide +kernel
theorem dX10_measured_62 : decode cX10_measured 62 = .ok (.aload_n 0, 1) := by decide +kernel
theorem dX10_measured_63 : decode cX10_measured 63 = .ok (.iload_n 1, 1) := by decide +kernel
theorem dX10_measured_64 : decode cX10_measured 64 = .ok (.bipush 9, 2) := by decide +kernel
theorem dX10_measured_66 : decode cX10_measured 66 = .ok (.invokevirtual 69, 3) := by decide +kernel
theorem dX10_measured_69 : decode cX10_measured 69 = .ok (.aload_n 0, 1) := by decide +kernel
theorem dX10_measured_70 : decode cX10_measured 70 = .ok (.iload_n 1, 1) := by decide +kernel
theorem dX10_measured_71 : decode cX10_measured 71 = .ok (.bipush 10, 2) := by decide +kernel
theorem dX10_measured_73 : decode cX10_measured 73 = .ok (.invokevirtual 69, 3) := by decide +kernel
theorem dX10_measured_76 : decode cX10_measured 76 = .ok (.if_icmp .le 13, 3) := by decide +kernel
theorem dX10_measured_79 : decode cX10_measured 79 = .ok (.aload_n 0, 1) := by decide +kernel
theorem dX10_measured_80 : decode cX10_measured 80 = .ok (.iload_n 1, 1) := by decide +kernel
theorem dX10_measured_81 : decode cX10_measured 81 = .ok (.bipush 9, 2) := by decide +kernel
theorem dX10_measured_83 : decode cX10_measured 83 = .ok (.invokevirtual 69, 3) := by decide +kernel
theorem dX10_measured_86 : decode cX10_measured 86 = .ok (.goto 10, 3) := by decide +kernel
theorem dX10_measured_89 : decode cX10_measured 89 = .ok (.aload_n 0, 1) := by decide +kernel
theorem dX10_measured_90 : decode cX10_measured 90 = .ok (.iload_n 1, 1) := by decide +kernel
theorem dX10_measured_91 : decode cX10_measured 91 = .ok (.bipush 10, 2) := by decide +kernel
theorem dX10_measured_93 : decode cX10_measured 93 = .ok (.invokevirtual 69, 3) := by decide +kernel
theorem dX10_measured_96 : decode cX10_measured 96 = .ok (.ireturn, 1) := by decide +kernel
theorem dX10_measured_97 : decode cX10_measured 97 = .ok (.aload_n 0, 1) := by decide +kernel
theorem dX10_measured_98 : decode cX10_measured 98 = .ok (.iload_n 1, 1) := by decide +kernel
theorem dX10_measured_99 : decode cX10_measured 99 = .ok (.invokevirtual 150, 3) := by decide +kernel
theorem dX10_measured_102 : decode cX10_measured 102 = .ok (.ireturn, 1) := by decide +kernel
theorem dX10_ranked_0 : decode cX10_ranked 0 = .ok (.aload_n 0, 1) := by decide +kernel
theorem dX10_ranked_1 : decode cX10_ranked 1 = .ok (.iload_n 1, 1) := by decide +kernel
theorem dX10_ranked_2 : decode cX10_ranked 2 = .ok (.iconst 0, 1) := by decide +kernel
theorem dX10_ranked_3 : decode cX10_ranked 3 = .ok (.iconst 4, 1) := by decide +kernel
theorem dX10_ranked_4 : decode cX10_ranked 4 = .ok (.invokestatic 65, 3) := by decide +kernel
theorem dX10_ranked_7 : decode cX10_ranked 7 = .ok (.ifCond .eq 7, 3) := by decide +kernel
theorem dX10_ranked_10 : decode cX10_ranked 10 = .ok (.iconst 0, 1) := by decide +kernel
theorem dX10_ranked_11 : decode cX10_ranked 11 = .ok (.goto 4, 3) := by decide +kernel
theorem dX10_ranked_14 : decode cX10_ranked 14 = .ok (.iconst 1, 1) := by decide +kernel
theorem dX10_ranked_15 : decode cX10_ranked 15 = .ok (.invokevirtual 156, 3) := by decide +kernel
theorem dX10_ranked_18 : decode cX10_ranked 18 = .ok (.ifCond .eq 5, 3) := by decide +kernel
theorem dX10_ranked_21 : decode cX10_ranked 21 = .ok (.iconst 0, 1) := by decide +kernel
theorem dX10_ranked_22 : decode cX10_ranked 22 = .ok (.ireturn, 1) := by decide +kernel
theorem dX10_ranked_23 : decode cX10_ranked 23 = .ok (.iconst 0, 1) := by decide +kernel
theorem dX10_ranked_24 : decode cX10_ranked 24 = .ok (.istore_n 3, 1) := by decide +kernel
theorem dX10_ranked_25 : decode cX10_ranked 25 = .ok (.iload_n 3, 1) := by decide +kernel
theorem dX10_ranked_26 : decode cX10_ranked 26 = .ok (.aload_n 0, 1) := by decide +kernel
theorem dX10_ranked_27 : decode cX10_ranked 27 = .ok (.getfield 7, 3) := by decide +kernel
theorem dX10_ranked_30 : decode cX10_ranked 30 = .ok (.iconst 0, 1) := by decide +kernel
theorem dX10_ranked_31 : decode cX10_ranked 31 = .ok (.iaload, 1) := by decide +kernel
theorem dX10_ranked_32 : decode cX10_ranked 32 = .ok (.if_icmp .ge 88, 3) := by decide +kernel
theorem dX10_ranked_35 : decode cX10_ranked 35 = .ok (.iconst 0, 1) := by decide +kernel
theorem dX10_ranked_36 : decode cX10_ranked 36 = .ok (.istore 4, 2) := by decide +kernel
theorem dX10_ranked_38 : decode cX10_ranked 38 = .ok (.iconst 0, 1) := by decide +kernel
theorem dX10_ranked_39 : decode cX10_ranked 39 = .ok (.istore 5, 2) := by decide +kernel
theorem dX10_ranked_41 : decode cX10_ranked 41 = .ok (.iload 5, 2) := by decide +kernel
theorem dX10_ranked_43 : decode cX10_ranked 43 = .ok (.aload_n 0, 1) := by decide +kernel
theorem dX10_ranked_44 : decode cX10_ranked 44 = .ok (.getfield 7, 3) := by decide +kernel
theorem dX10_ranked_47 : decode cX10_ranked 47 = .ok (.iconst 0, 1) := by decide +kernel
theorem dX10_ranked_48 : decode cX10_ranked 48 = .ok (.iaload, 1) := by decide +kernel
theorem dX10_ranked_49 : decode cX10_ranked 49 = .ok (.if_icmp .ge 57, 3) := by decide +kernel
theorem dX10_ranked_52 : decode cX10_ranked 52 = .ok (.iload 4, 2) := by decide +kernel
theorem dX10_ranked_54 : decode cX10_ranked 54 = .ok (.aload_n 0, 1) := by decide +kernel
theorem dX10_ranked_55 : decode cX10_ranked 55 = .ok (.iload 5, 2) := by decide +kernel
theorem dX10_ranked_57 : decode cX10_ranked 57 = .ok (.iload_n 1, 1) := by decide +kernel
theorem dX10_ranked_58 : decode cX10_ranked 58 = .ok (.invokevirtual 165, 3) := by decide +kernel
theorem dX10_ranked_61 : decode cX10_ranked 61 = .ok (.aload_n 0, 1) := by decide +kernel
theorem dX10_ranked_62 : decode cX10_ranked 62 = .ok (.iload_n 3, 1) := by decide +kernel
theorem dX10_ranked_63 : decode cX10_ranked 63 = .ok (.iload_n 1, 1) := by decide +kernel
theorem dX10_ranked_64 : decode cX10_ranked 64 = .ok (.invokevirtual 165, 3) := by decide +kernel
theorem dX10_ranked_67 : decode cX10_ranked 67 = .ok (.if_icmp .gt 25, 3) := by decide +kernel
theorem dX10_ranked_70 : decode cX10_ranked 70 = .ok (.aload_n 0, 1) := by decide +kernel
theorem dX10_ranked_71 : decode cX10_ranked 71 = .ok (.iload 5, 2) := by decide +kernel
theorem dX10_ranked_73 : decode cX10_ranked 73 = .ok (.iload_n 1, 1) := by decide +kernel
theorem dX10_ranked_74 : decode cX10_ranked 74 = .ok (.invokevirtual 165, 3) := by decide +kernel
theorem dX10_ranked_77 : decode cX10_ranked 77 = .ok (.aload_n 0, 1) := by decide +kernel
theorem dX10_ranked_78 : decode cX10_ranked 78 = .ok (.iload_n 3, 1) := by decide +kernel
theorem dX10_ranked_79 : decode cX10_ranked 79 = .ok (.iload_n 1, 1) := by decide +kernel
theorem dX10_ranked_80 : decode cX10_ranked 80 = .ok (.invokevirtual 165, 3) := by decide +kernel
theorem dX10_ranked_83 : decode cX10_ranked 83 = .ok (.if_icmp .ne 13, 3) := by decide +kernel
theorem dX10_ranked_86 : decode cX10_ranked 86 = .ok (.iload 5, 2) := by decide +kernel
theorem dX10_ranked_88 : decode cX10_ranked 88 = .ok (.iload_n 3, 1) := by decide +kernel
theorem dX10_ranked_89 : decode cX10_ranked 89 = .ok (.if_icmp .ge 7, 3) := by decide +kernel
theorem dX10_ranked_92 : decode cX10_ranked 92 = .ok (.iconst 1, 1) := by decide +kernel
theorem dX10_ranked_93 : decode cX10_ranked 93 = .ok (.goto 4, 3) := by decide +kernel
theorem dX10_ranked_96 : decode cX10_ranked 96 = .ok (.iconst 0, 1) := by decide +kernel
theorem dX10_ranked_97 : decode cX10_ranked 97 = .ok (.iadd, 1) := by decide +kernel
theorem dX10_ranked_98 : decode cX10_ranked 98 = .ok (.istore 4, 2) := by decide +kernel
theorem dX10_ranked_100 : decode cX10_ranked 100 = .ok (.iinc 5 1, 3) := by decide +kernel
theorem dX10_ranked_103 : decode cX10_ranked 103 = .ok (.goto (-62), 3) := by decide +kernel
theorem dX10_ranked_106 : decode cX10_ranked 106 = .ok (.iload 4, 2) := by decide +kernel
theorem dX10_ranked_108 : decode cX10_ranked 108 = .ok (.iload_n 2, 1) := by decide +kernel
theorem dX10_ranked_109 : decode cX10_ranked 109 = .ok (.if_icmp .ne 5, 3) := by decide +kernel
theorem dX10_ranked_112 : decode cX10_ranked 112 = .ok (.iload_n 3, 1) := by decide +kernel
theorem dX10_ranked_113 : decode cX10_ranked 113 = .ok (.ireturn, 1) := by decide +kernel
theorem dX10_ranked_114 : decode cX10_ranked 114 = .ok (.iinc 3 1, 3) := by decide +kernel
theorem dX10_ranked_117 : decode cX10_ranked 117 = .ok (.goto (-92), 3) := by decide +kernel
theorem dX10_ranked_120 : decode cX10_ranked 120 = .ok (.aload_n 0, 1) := by decide +kernel
theorem dX10_ranked_121 : decode cX10_ranked 121 = .ok (.iconst 2, 1) := by decide +kernel
theorem dX10_ranked_122 : decode cX10_ranked 122 = .ok (.putfield 39, 3) := by decide +kernel
theorem dX10_ranked_125 : decode cX10_ranked 125 = .ok (.iconst 0, 1) := by decide +kernel
theorem dX10_ranked_126 : decode cX10_ranked 126 = .ok (.ireturn, 1) := by decide +kernel
theorem dX10_append_0 : decode cX10_append 0 = .ok (.aload_n 0, 1) := by decide +kernel
theorem dX10_append_1 : decode cX10_append 1 = .ok (.aload_n 0, 1) := by decide +kernel
theorem dX10_append_2 : decode cX10_append 2 = .ok (.getfield 168, 3) := by decide +kernel
theorem dX10_append_5 : decode cX10_append 5 = .ok (.bipush 60, 2) := by decide +kernel
theorem dX10_append_7 : decode cX10_append 7 = .ok (.if_icmp .ne 7, 3) := by decide +kernel
theorem dX10_append_10 : decode cX10_append 10 = .ok (.iconst 1, 1) := by decide +kernel
theorem dX10_append_11 : decode cX10_append 11 = .ok (.goto 4, 3) := by decide +kernel
theorem dX10_append_14 : decode cX10_append 14 = .ok (.iconst 0, 1) := by decide +kernel
theorem dX10_append_15 : decode cX10_append 15 = .ok (.invokevirtual 156, 3) := by decide +kernel
theorem dX10_append_18 : decode cX10_append 18 = .ok (.ifCond .eq 5, 3) := by decide +kernel
theorem dX10_append_21 : decode cX10_append 21 = .ok (.iconst 0, 1) := by decide +kernel
theorem dX10_append_22 : decode cX10_append 22 = .ok (.ireturn, 1) := by decide +kernel
theorem dX10_append_23 : decode cX10_append 23 = .ok (.aload_n 0, 1) := by decide +kernel
theorem dX10_append_24 : decode cX10_append 24 = .ok (.getfield 25, 3) := by decide +kernel
theorem dX10_append_27 : decode cX10_append 27 = .ok (.aload_n 0, 1) := by decide +kernel
theorem dX10_append_28 : decode cX10_append 28 = .ok (.getfield 168, 3) := by decide +kernel
theorem dX10_append_31 : decode cX10_append 31 = .ok (.iload_n 1, 1) := by decide +kernel
theorem dX10_append_32 : decode cX10_append 32 = .ok (.iastore, 1) := by decide +kernel
theorem dX10_append_33 : decode cX10_append 33 = .ok (.aload_n 0, 1) := by decide +kernel
theorem dX10_append_34 : decode cX10_append 34 = .ok (.dup, 1) := by decide +kernel
theorem dX10_append_35 : decode cX10_append 35 = .ok (.getfield 168, 3) := by decide +kernel
theorem dX10_append_38 : decode cX10_append 38 = .ok (.iconst 1, 1) := by decide +kernel
theorem dX10_append_39 : decode cX10_append 39 = .ok (.iadd, 1) := by decide +kernel
theorem dX10_append_40 : decode cX10_append 40 = .ok (.putfield 168, 3) := by decide +kernel
theorem dX10_append_43 : decode cX10_append 43 = .ok (.aload_n 0, 1) := by decide +kernel
theorem dX10_append_44 : decode cX10_append 44 = .ok (.getfield 168, 3) := by decide +kernel
theorem dX10_append_47 : decode cX10_append 47 = .ok (.ireturn, 1) := by decide +kernel
theorem dX10_here_0 : decode cX10_here 0 = .ok (.aload_n 0, 1) := by decide +kernel
theorem dX10_here_1 : decode cX10_here 1 = .ok (.getfield 171, 3) := by decide +kernel
theorem dX10_here_4 : decode cX10_here 4 = .ok (.aload_n 0, 1) := by decide +kernel
theorem dX10_here_5 : decode cX10_here 5 = .ok (.getfield 168, 3) := by decide +kernel
theorem dX10_here_8 : decode cX10_here 8 = .ok (.if_icmp .ge 15, 3) := by decide +kernel
theorem dX10_here_11 : decode cX10_here 11 = .ok (.aload_n 0, 1) := by decide +kernel
theorem dX10_here_12 : decode cX10_here 12 = .ok (.getfield 25, 3) := by decide +kernel
theorem dX10_here_15 : decode cX10_here 15 = .ok (.aload_n 0, 1) := by decide +kernel
theorem dX10_here_16 : decode cX10_here 16 = .ok (.getfield 171, 3) := by decide +kernel
theorem dX10_here_19 : decode cX10_here 19 = .ok (.iaload, 1) := by decide +kernel
theorem dX10_here_20 : decode cX10_here 20 = .ok (.goto 4, 3) := by decide +kernel
theorem dX10_here_23 : decode cX10_here 23 = .ok (.iconst (-1), 1) := by decide +kernel
theorem dX10_here_24 : decode cX10_here 24 = .ok (.ireturn, 1) := by decide +kernel
theorem dX10_skips_0 : decode cX10_skips 0 = .ok (.aload_n 0, 1) := by decide +kernel
theorem dX10_skips_1 : decode cX10_skips 1 = .ok (.invokevirtual 174, 3) := by decide +kernel
theorem dX10_skips_4 : decode cX10_skips 4 = .ok (.iload_n 1, 1) := by decide +kernel
theorem dX10_skips_5 : decode cX10_skips 5 = .ok (.if_icmp .eq 5, 3) := by decide +kernel
theorem dX10_skips_8 : decode cX10_skips 8 = .ok (.iconst 0, 1) := by decide +kernel
theorem dX10_skips_9 : decode cX10_skips 9 = .ok (.ireturn, 1) := by decide +kernel
theorem dX10_skips_10 : decode cX10_skips 10 = .ok (.aload_n 0, 1) := by decide +kernel
theorem dX10_skips_11 : decode cX10_skips 11 = .ok (.dup, 1) := by decide +kernel
theorem dX10_skips_12 : decode cX10_skips 12 = .ok (.getfield 171, 3) := by decide +kernel
theorem dX10_skips_15 : decode cX10_skips 15 = .ok (.iconst 1, 1) := by decide +kernel
theorem dX10_skips_16 : decode cX10_skips 16 = .ok (.iadd, 1) := by decide +kernel
theorem dX10_skips_17 : decode cX10_skips 17 = .ok (.putfield 171, 3) := by decide +kernel
theorem dX10_skips_20 : decode cX10_skips 20 = .ok (.iconst 1, 1) := by decide +kernel
theorem dX10_skips_21 : decode cX10_skips 21 = .ok (.ireturn, 1) := by decide +kernel
theorem dX10_figures_0 : decode cX10_figures 0 = .ok (.aload_n 0, 1) := by decide +kernel
theorem dX10_figures_1 : decode cX10_figures 1 = .ok (.invokevirtual 174, 3) := by decide +kernel
theorem dX10_figures_4 : decode cX10_figures 4 = .ok (.bipush 48, 2) := by decide +kernel
theorem dX10_figures_6 : decode cX10_figures 6 = .ok (.bipush 57, 2) := by decide +kernel
theorem dX10_figures_8 : decode cX10_figures 8 = .ok (.invokestatic 65, 3) := by decide +kernel
theorem dX10_figures_11 : decode cX10_figures 11 = .ok (.ifCond .ne 5, 3) := by decide +kernel
theorem dX10_figures_14 : decode cX10_figures 14 = .ok (.iconst 0, 1) := by decide +kernel
theorem dX10_figures_15 : decode cX10_figures 15 = .ok (.ireturn, 1) := by decide +kernel
theorem dX10_figures_16 : decode cX10_figures 16 = .ok (.aload_n 0, 1) := by decide +kernel
theorem dX10_figures_17 : decode cX10_figures 17 = .ok (.getfield 36, 3) := by decide +kernel
theorem dX10_figures_20 : decode cX10_figures 20 = .ok (.iload_n 1, 1) := by decide +kernel
theorem dX10_figures_21 : decode cX10_figures 21 = .ok (.iconst 0, 1) := by decide +kernel
theorem dX10_figures_22 : decode cX10_figures 22 = .ok (.iastore, 1) := by decide +kernel
theorem dX10_figures_23 : decode cX10_figures 23 = .ok (.iconst 0, 1) := by decide +kernel
theorem dX10_figures_24 : decode cX10_figures 24 = .ok (.istore_n 3, 1) := by decide +kernel
theorem dX10_figures_25 : decode cX10_figures 25 = .ok (.iload_n 3, 1) := by decide +kernel
theorem dX10_figures_26 : decode cX10_figures 26 = .ok (.iload_n 2, 1) := by decide +kernel
theorem dX10_figures_27 : decode cX10_figures 27 = .ok (.if_icmp .ge 56, 3) := by decide +kernel
theorem dX10_figures_30 : decode cX10_figures 30 = .ok (.aload_n 0, 1) := by decide +kernel
theorem dX10_figures_31 : decode cX10_figures 31 = .ok (.invokevirtual 174, 3) := by decide +kernel
theorem dX10_figures_34 : decode cX10_figures 34 = .ok (.bipush 48, 2) := by decide +kernel
theorem dX10_figures_36 : decode cX10_figures 36 = .ok (.bipush 57, 2) := by decide +kernel
theorem dX10_figures_38 : decode cX10_figures 38 = .ok (.invokestatic 65, 3) := by decide +kernel
theorem dX10_figures_41 : decode cX10_figures 41 = .ok (.ifCond .eq 42, 3) := by decide +kernel
theorem dX10_figures_44 : decode cX10_figures 44 = .ok (.aload_n 0, 1) := by decide +kernel
theorem dX10_figures_45 : decode cX10_figures 45 = .ok (.getfield 36, 3) := by decide +kernel
theorem dX10_figures_48 : decode cX10_figures 48 = .ok (.iload_n 1, 1) := by decide +kernel
theorem dX10_figures_49 : decode cX10_figures 49 = .ok (.bipush 10, 2) := by decide +kernel
theorem dX10_figures_51 : decode cX10_figures 51 = .ok (.aload_n 0, 1) := by decide +kernel
theorem dX10_figures_52 : decode cX10_figures 52 = .ok (.getfield 36, 3) := by decide +kernel
theorem dX10_figures_55 : decode cX10_figures 55 = .ok (.iload_n 1, 1) := by decide +kernel
theorem dX10_figures_56 : decode cX10_figures 56 = .ok (.iaload, 1) := by decide +kernel
theorem dX10_figures_57 : decode cX10_figures 57 = .ok (.imul, 1) := by decide +kernel
theorem dX10_figures_58 : decode cX10_figures 58 = .ok (.aload_n 0, 1) := by decide +kernel
theorem dX10_figures_59 : decode cX10_figures 59 = .ok (.invokevirtual 174, 3) := by decide +kernel
theorem dX10_figures_62 : decode cX10_figures 62 = .ok (.iadd, 1) := by decide +kernel
theorem dX10_figures_63 : decode cX10_figures 63 = .ok (.bipush 48, 2) := by decide +kernel
theorem dX10_figures_65 : decode cX10_figures 65 = .ok (.isub, 1) := by decide +kernel
theorem dX10_figures_66 : decode cX10_figures 66 = .ok (.iastore, 1) := by decide +kernel
theorem dX10_figures_67 : decode cX10_figures 67 = .ok (.aload_n 0, 1) := by decide +kernel
theorem dX10_figures_68 : decode cX10_figures 68 = .ok (.dup, 1) := by decide +kernel
theorem dX10_figures_69 : decode cX10_figures 69 = .ok (.getfield 171, 3) := by decide +kernel
theorem dX10_figures_72 : decode cX10_figures 72 = .ok (.iconst 1, 1) := by decide +kernel
theorem dX10_figures_73 : decode cX10_figures 73 = .ok (.iadd, 1) := by decide +kernel
theorem dX10_figures_74 : decode cX10_figures 74 = .ok (.putfield 171, 3) := by decide +kernel
theorem dX10_figures_77 : decode cX10_figures 77 = .ok (.iinc 3 1, 3) := by decide +kernel
theorem dX10_figures_80 : decode cX10_figures 80 = .ok (.goto (-55), 3) := by decide +kernel
theorem dX10_figures_83 : decode cX10_figures 83 = .ok (.iconst 1, 1) := by decide +kernel
theorem dX10_figures_84 : decode cX10_figures 84 = .ok (.ireturn, 1) := by decide +kernel
theorem dX10_hasTwo_0 : decode cX10_hasTwo 0 = .ok (.aload_n 0, 1) := by decide +kernel
theorem dX10_hasTwo_1 : decode cX10_hasTwo 1 = .ok (.bipush 98, 2) := by decide +kernel
theorem dX10_hasTwo_3 : decode cX10_hasTwo 3 = .ok (.invokevirtual 177, 3) := by decide +kernel
theorem dX10_hasTwo_6 : decode cX10_hasTwo 6 = .ok (.ifCond .ne 57, 3) := by decide +kernel
theorem dX10_hasTwo_9 : decode cX10_hasTwo 9 = .ok (.aload_n 0, 1) := by decide +kernel
theorem dX10_hasTwo_10 : decode cX10_hasTwo 10 = .ok (.bipush 111, 2) := by decide +kernel
theorem dX10_hasTwo_12 : decode cX10_hasTwo 12 = .ok (.invokevirtual 177, 3) := by decide +kernel
theorem dX10_hasTwo_15 : decode cX10_hasTwo 15 = .ok (.ifCond .ne 48, 3) := by decide +kernel
theorem dX10_hasTwo_18 : decode cX10_hasTwo 18 = .ok (.aload_n 0, 1) := by decide +kernel
theorem dX10_hasTwo_19 : decode cX10_hasTwo 19 = .ok (.bipush 116, 2) := by decide +kernel
theorem dX10_hasTwo_21 : decode cX10_hasTwo 21 = .ok (.invokevirtual 177, 3) := by decide +kernel
theorem dX10_hasTwo_24 : decode cX10_hasTwo 24 = .ok (.ifCond .ne 39, 3) := by decide +kernel
theorem dX10_hasTwo_27 : decode cX10_hasTwo 27 = .ok (.aload_n 0, 1) := by decide +kernel
theorem dX10_hasTwo_28 : decode cX10_hasTwo 28 = .ok (.bipush 108, 2) := by decide +kernel
theorem dX10_hasTwo_30 : decode cX10_hasTwo 30 = .ok (.invokevirtual 177, 3) := by decide +kernel
theorem dX10_hasTwo_33 : decode cX10_hasTwo 33 = .ok (.ifCond .ne 30, 3) := by decide +kernel
theorem dX10_hasTwo_36 : decode cX10_hasTwo 36 = .ok (.aload_n 0, 1) := by decide +kernel
theorem dX10_hasTwo_37 : decode cX10_hasTwo 37 = .ok (.bipush 110, 2) := by decide +kernel
theorem dX10_hasTwo_39 : decode cX10_hasTwo 39 = .ok (.invokevirtual 177, 3) := by decide +kernel
theorem dX10_hasTwo_42 : decode cX10_hasTwo 42 = .ok (.ifCond .ne 21, 3) := by decide +kernel
theorem dX10_hasTwo_45 : decode cX10_hasTwo 45 = .ok (.aload_n 0, 1) := by decide +kernel
theorem dX10_hasTwo_46 : decode cX10_hasTwo 46 = .ok (.bipush 115, 2) := by decide +kernel
theorem dX10_hasTwo_48 : decode cX10_hasTwo 48 = .ok (.invokevirtual 177, 3) := by decide +kernel
theorem dX10_hasTwo_51 : decode cX10_hasTwo 51 = .ok (.ifCond .ne 12, 3) := by decide +kernel
theorem dX10_hasTwo_54 : decode cX10_hasTwo 54 = .ok (.aload_n 0, 1) := by decide +kernel
theorem dX10_hasTwo_55 : decode cX10_hasTwo 55 = .ok (.bipush 120, 2) := by decide +kernel
theorem dX10_hasTwo_57 : decode cX10_hasTwo 57 = .ok (.invokevirtual 177, 3) := by decide +kernel
theorem dX10_hasTwo_60 : decode cX10_hasTwo 60 = .ok (.ifCond .eq 7, 3) := by decide +kernel
theorem dX10_hasTwo_63 : decode cX10_hasTwo 63 = .ok (.iconst 1, 1) := by decide +kernel
theorem dX10_hasTwo_64 : decode cX10_hasTwo 64 = .ok (.goto 4, 3) := by decide +kernel
theorem dX10_hasTwo_67 : decode cX10_hasTwo 67 = .ok (.iconst 0, 1) := by decide +kernel
theorem dX10_hasTwo_68 : decode cX10_hasTwo 68 = .ok (.ireturn, 1) := by decide +kernel
theorem dX10_commandHere_0 : decode cX10_commandHere 0 = .ok (.iconst 4, 1) := by decide +kernel
theorem dX10_commandHere_1 : decode cX10_commandHere 1 = .ok (.aload_n 0, 1) := by decide +kernel
theorem dX10_commandHere_2 : decode cX10_commandHere 2 = .ok (.getfield 180, 3) := by decide +kernel
theorem dX10_commandHere_5 : decode cX10_commandHere 5 = .ok (.imul, 1) := by decide +kernel
theorem dX10_commandHere_6 : decode cX10_commandHere 6 = .ok (.istore_n 1, 1) := by decide +kernel
theorem dX10_commandHere_7 : decode cX10_commandHere 7 = .ok (.aload_n 0, 1) := by decide +kernel
theorem dX10_commandHere_8 : decode cX10_commandHere 8 = .ok (.getfield 36, 3) := by decide +kernel
theorem dX10_commandHere_11 : decode cX10_commandHere 11 = .ok (.iload_n 1, 1) := by decide +kernel
theorem dX10_commandHere_12 : decode cX10_commandHere 12 = .ok (.aload_n 0, 1) := by decide +kernel
theorem dX10_commandHere_13 : decode cX10_commandHere 13 = .ok (.invokevirtual 174, 3) := by decide +kernel
theorem dX10_commandHere_16 : decode cX10_commandHere 16 = .ok (.iastore, 1) := by decide +kernel
theorem dX10_commandHere_17 : decode cX10_commandHere 17 = .ok (.aload_n 0, 1) := by decide +kernel
theorem dX10_commandHere_18 : decode cX10_commandHere 18 = .ok (.bipush 100, 2) := by decide +kernel
theorem dX10_commandHere_20 : decode cX10_commandHere 20 = .ok (.invokevirtual 177, 3) := by decide +kernel
theorem dX10_commandHere_23 : decode cX10_commandHere 23 = .ok (.ifCond .eq 5, 3) := by decide +kernel
theorem dX10_commandHere_26 : decode cX10_commandHere 26 = .ok (.iconst 1, 1) := by decide +kernel
theorem dX10_commandHere_27 : decode cX10_commandHere 27 = .ok (.ireturn, 1) := by decide +kernel
theorem dX10_commandHere_28 : decode cX10_commandHere 28 = .ok (.aload_n 0, 1) := by decide +kernel
theorem dX10_commandHere_29 : decode cX10_commandHere 29 = .ok (.invokevirtual 183, 3) := by decide +kernel
theorem dX10_commandHere_32 : decode cX10_commandHere 32 = .ok (.ifCond .eq 12, 3) := by decide +kernel
theorem dX10_commandHere_35 : decode cX10_commandHere 35 = .ok (.aload_n 0, 1) := by decide +kernel
theorem dX10_commandHere_36 : decode cX10_commandHere 36 = .ok (.iload_n 1, 1) := by decide +kernel
theorem dX10_commandHere_37 : decode cX10_commandHere 37 = .ok (.iconst 1, 1) := by decide +kernel
theorem dX10_commandHere_38 : decode cX10_commandHere 38 = .ok (.iadd, 1) := by decide +kernel
theorem dX10_commandHere_39 : decode cX10_commandHere 39 = .ok (.iconst 2, 1) := by decide +kernel
theorem dX10_commandHere_40 : decode cX10_commandHere 40 = .ok (.invokevirtual 187, 3) := by decide +kernel
theorem dX10_commandHere_43 : decode cX10_commandHere 43 = .ok (.ireturn, 1) := by decide +kernel
theorem dX10_commandHere_44 : decode cX10_commandHere 44 = .ok (.aload_n 0, 1) := by decide +kernel
theorem dX10_commandHere_45 : decode cX10_commandHere 45 = .ok (.bipush 102, 2) := by decide +kernel
theorem dX10_commandHere_47 : decode cX10_commandHere 47 = .ok (.invokevirtual 177, 3) := by decide +kernel
theorem dX10_commandHere_50 : decode cX10_commandHere 50 = .ok (.ifCond .ne 21, 3) := by decide +kernel
theorem dX10_commandHere_53 : decode cX10_commandHere 53 = .ok (.aload_n 0, 1) := by decide +kernel
theorem dX10_commandHere_54 : decode cX10_commandHere 54 = .ok (.bipush 97, 2) := by decide +kernel
theorem dX10_commandHere_56 : decode cX10_commandHere 56 = .ok (.invokevirtual 177, 3) := by decide +kernel
theorem dX10_commandHere_59 : decode cX10_commandHere 59 = .ok (.ifCond .ne 12, 3) := by decide +kernel
theorem dX10_commandHere_62 : decode cX10_commandHere 62 = .ok (.aload_n 0, 1) := by decide +kernel
theorem dX10_commandHere_63 : decode cX10_commandHere 63 = .ok (.bipush 119, 2) := by decide +kernel
theorem dX10_commandHere_65 : decode cX10_commandHere 65 = .ok (.invokevirtual 177, 3) := by decide +kernel
theorem dX10_commandHere_68 : decode cX10_commandHere 68 = .ok (.ifCond .eq 12, 3) := by decide +kernel
theorem dX10_commandHere_71 : decode cX10_commandHere 71 = .ok (.aload_n 0, 1) := by decide +kernel
theorem dX10_commandHere_72 : decode cX10_commandHere 72 = .ok (.iload_n 1, 1) := by decide +kernel
theorem dX10_commandHere_73 : decode cX10_commandHere 73 = .ok (.iconst 1, 1) := by decide +kernel
theorem dX10_commandHere_74 : decode cX10_commandHere 74 = .ok (.iadd, 1) := by decide +kernel
theorem dX10_commandHere_75 : decode cX10_commandHere 75 = .ok (.iconst 1, 1) := by decide +kernel
theorem dX10_commandHere_76 : decode cX10_commandHere 76 = .ok (.invokevirtual 187, 3) := by decide +kernel
theorem dX10_commandHere_79 : decode cX10_commandHere 79 = .ok (.ireturn, 1) := by decide +kernel
theorem dX10_commandHere_80 : decode cX10_commandHere 80 = .ok (.aload_n 0, 1) := by decide +kernel
theorem dX10_commandHere_81 : decode cX10_commandHere 81 = .ok (.bipush 104, 2) := by decide +kernel
theorem dX10_commandHere_83 : decode cX10_commandHere 83 = .ok (.invokevirtual 177, 3) := by decide +kernel
theorem dX10_commandHere_86 : decode cX10_commandHere 86 = .ok (.ifCond .eq 49, 3) := by decide +kernel
theorem dX10_commandHere_89 : decode cX10_commandHere 89 = .ok (.aload_n 0, 1) := by decide +kernel
theorem dX10_commandHere_90 : decode cX10_commandHere 90 = .ok (.iload_n 1, 1) := by decide +kernel
theorem dX10_commandHere_91 : decode cX10_commandHere 91 = .ok (.iconst 1, 1) := by decide +kernel
theorem dX10_commandHere_92 : decode cX10_commandHere 92 = .ok (.iadd, 1) := by decide +kernel
theorem dX10_commandHere_93 : decode cX10_commandHere 93 = .ok (.iconst 2, 1) := by decide +kernel
theorem dX10_commandHere_94 : decode cX10_commandHere 94 = .ok (.invokevirtual 187, 3) := by decide +kernel
theorem dX10_commandHere_97 : decode cX10_commandHere 97 = .ok (.ifCond .eq 38, 3) := by decide +kernel
theorem dX10_commandHere_100 : decode cX10_commandHere 100 = .ok (.aload_n 0, 1) := by decide +kernel
theorem dX10_commandHere_101 : decode cX10_commandHere 101 = .ok (.bipush 47, 2) := by decide +kernel
theorem dX10_commandHere_103 : decode cX10_commandHere 103 = .ok (.invokevirtual 177, 3) := by decide +kernel
theorem dX10_commandHere_106 : decode cX10_commandHere 106 = .ok (.ifCond .eq 29, 3) := by decide +kernel
theorem dX10_commandHere_109 : decode cX10_commandHere 109 = .ok (.aload_n 0, 1) := by decide +kernel
theorem dX10_commandHere_110 : decode cX10_commandHere 110 = .ok (.iload_n 1, 1) := by decide +kernel
theorem dX10_commandHere_111 : decode cX10_commandHere 111 = .ok (.iconst 2, 1) := by decide +kernel
theorem dX10_commandHere_112 : decode cX10_commandHere 112 = .ok (.iadd, 1) := by decide +kernel
theorem dX10_commandHere_113 : decode cX10_commandHere 113 = .ok (.iconst 1, 1) := by decide +kernel
theorem dX10_commandHere_114 : decode cX10_commandHere 114 = .ok (.invokevirtual 187, 3) := by decide +kernel
theorem dX10_commandHere_117 : decode cX10_commandHere 117 = .ok (.ifCond .eq 18, 3) := by decide +kernel
theorem dX10_commandHere_120 : decode cX10_commandHere 120 = .ok (.aload_n 0, 1) := by decide +kernel
theorem dX10_commandHere_121 : decode cX10_commandHere 121 = .ok (.iload_n 1, 1) := by decide +kernel
theorem dX10_commandHere_122 : decode cX10_commandHere 122 = .ok (.iconst 3, 1) := by decide +kernel
theorem dX10_commandHere_123 : decode cX10_commandHere 123 = .ok (.iadd, 1) := by decide +kernel
theorem dX10_commandHere_124 : decode cX10_commandHere 124 = .ok (.iconst 1, 1) := by decide +kernel
theorem dX10_commandHere_125 : decode cX10_commandHere 125 = .ok (.invokevirtual 187, 3) := by decide +kernel
theorem dX10_commandHere_128 : decode cX10_commandHere 128 = .ok (.ifCond .eq 7, 3) := by decide +kernel
theorem dX10_commandHere_131 : decode cX10_commandHere 131 = .ok (.iconst 1, 1) := by decide +kernel
theorem dX10_commandHere_132 : decode cX10_commandHere 132 = .ok (.goto 4, 3) := by decide +kernel
theorem dX10_commandHere_135 : decode cX10_commandHere 135 = .ok (.iconst 0, 1) := by decide +kernel
theorem dX10_commandHere_136 : decode cX10_commandHere 136 = .ok (.ireturn, 1) := by decide +kernel
theorem dX10_isText_0 : decode cX10_isText 0 = .ok (.aload_n 0, 1) := by decide +kernel
theorem dX10_isText_1 : decode cX10_isText 1 = .ok (.iconst 0, 1) := by decide +kernel
theorem dX10_isText_2 : decode cX10_isText 2 = .ok (.putfield 171, 3) := by decide +kernel
theorem dX10_isText_5 : decode cX10_isText 5 = .ok (.aload_n 0, 1) := by decide +kernel
theorem dX10_isText_6 : decode cX10_isText 6 = .ok (.iconst 0, 1) := by decide +kernel
theorem dX10_isText_7 : decode cX10_isText 7 = .ok (.putfield 180, 3) := by decide +kernel
theorem dX10_isText_10 : decode cX10_isText 10 = .ok (.aload_n 0, 1) := by decide +kernel
theorem dX10_isText_11 : decode cX10_isText 11 = .ok (.invokevirtual 190, 3) := by decide +kernel
theorem dX10_isText_14 : decode cX10_isText 14 = .ok (.ifCond .ne 5, 3) := by decide +kernel
theorem dX10_isText_17 : decode cX10_isText 17 = .ok (.iconst 0, 1) := by decide +kernel
theorem dX10_isText_18 : decode cX10_isText 18 = .ok (.ireturn, 1) := by decide +kernel
theorem dX10_isText_19 : decode cX10_isText 19 = .ok (.aload_n 0, 1) := by decide +kernel
theorem dX10_isText_20 : decode cX10_isText 20 = .ok (.dup, 1) := by decide +kernel
theorem dX10_isText_21 : decode cX10_isText 21 = .ok (.getfield 180, 3) := by decide +kernel
theorem dX10_isText_24 : decode cX10_isText 24 = .ok (.iconst 1, 1) := by decide +kernel
theorem dX10_isText_25 : decode cX10_isText 25 = .ok (.iadd, 1) := by decide +kernel
theorem dX10_isText_26 : decode cX10_isText 26 = .ok (.putfield 180, 3) := by decide +kernel
theorem dX10_isText_29 : decode cX10_isText 29 = .ok (.aload_n 0, 1) := by decide +kernel
theorem dX10_isText_30 : decode cX10_isText 30 = .ok (.bipush 59, 2) := by decide +kernel
theorem dX10_isText_32 : decode cX10_isText 32 = .ok (.invokevirtual 177, 3) := by decide +kernel
theorem dX10_isText_35 : decode cX10_isText 35 = .ok (.ifCond .ne (-25), 3) := by decide +kernel
theorem dX10_isText_38 : decode cX10_isText 38 = .ok (.aload_n 0, 1) := by decide +kernel
theorem dX10_isText_39 : decode cX10_isText 39 = .ok (.getfield 171, 3) := by decide +kernel
theorem dX10_isText_42 : decode cX10_isText 42 = .ok (.aload_n 0, 1) := by decide +kernel
theorem dX10_isText_43 : decode cX10_isText 43 = .ok (.getfield 168, 3) := by decide +kernel
theorem dX10_isText_46 : decode cX10_isText 46 = .ok (.if_icmp .ne 7, 3) := by decide +kernel
theorem dX10_isText_49 : decode cX10_isText 49 = .ok (.iconst 1, 1) := by decide +kernel
theorem dX10_isText_50 : decode cX10_isText 50 = .ok (.goto 4, 3) := by decide +kernel
theorem dX10_isText_53 : decode cX10_isText 53 = .ok (.iconst 0, 1) := by decide +kernel
theorem dX10_isText_54 : decode cX10_isText 54 = .ok (.ireturn, 1) := by decide +kernel
theorem dX10_carries_0 : decode cX10_carries 0 = .ok (.aload_n 0, 1) := by decide +kernel
theorem dX10_carries_1 : decode cX10_carries 1 = .ok (.getfield 36, 3) := by decide +kernel
theorem dX10_carries_4 : decode cX10_carries 4 = .ok (.iload_n 1, 1) := by decide +kernel
theorem dX10_carries_5 : decode cX10_carries 5 = .ok (.iconst 1, 1) := by decide +kernel
theorem dX10_carries_6 : decode cX10_carries 6 = .ok (.iadd, 1) := by decide +kernel
theorem dX10_carries_7 : decode cX10_carries 7 = .ok (.iaload, 1) := by decide +kernel
theorem dX10_carries_8 : decode cX10_carries 8 = .ok (.istore_n 2, 1) := by decide +kernel
theorem dX10_carries_9 : decode cX10_carries 9 = .ok (.aload_n 0, 1) := by decide +kernel
theorem dX10_carries_10 : decode cX10_carries 10 = .ok (.getfield 36, 3) := by decide +kernel
theorem dX10_carries_13 : decode cX10_carries 13 = .ok (.iload_n 1, 1) := by decide +kernel
theorem dX10_carries_14 : decode cX10_carries 14 = .ok (.iaload, 1) := by decide +kernel
theorem dX10_carries_15 : decode cX10_carries 15 = .ok (.tableswitch 186 97 119 #[151, 111, 186, 169, 186, 105, 186, 123, 186, 186, 186, 157, 186, 174, 117, 186, 186, 186, 180, 145, 186, 186, 163], 105) := by decide +kernel
theorem dX10_carries_120 : decode cX10_carries 120 = .ok (.aload_n 0, 1) := by decide +kernel
theorem dX10_carries_121 : decode cX10_carries 121 = .ok (.iload_n 2, 1) := by decide +kernel
theorem dX10_carries_122 : decode cX10_carries 122 = .ok (.invokevirtual 193, 3) := by decide +kernel
theorem dX10_carries_125 : decode cX10_carries 125 = .ok (.ireturn, 1) := by decide +kernel
theorem dX10_carries_126 : decode cX10_carries 126 = .ok (.aload_n 0, 1) := by decide +kernel
theorem dX10_carries_127 : decode cX10_carries 127 = .ok (.iload_n 2, 1) := by decide +kernel
theorem dX10_carries_128 : decode cX10_carries 128 = .ok (.invokevirtual 196, 3) := by decide +kernel
theorem dX10_carries_131 : decode cX10_carries 131 = .ok (.ireturn, 1) := by decide +kernel
theorem dX10_carries_132 : decode cX10_carries 132 = .ok (.aload_n 0, 1) := by decide +kernel
theorem dX10_carries_133 : decode cX10_carries 133 = .ok (.iload_n 2, 1) := by decide +kernel
theorem dX10_carries_134 : decode cX10_carries 134 = .ok (.invokevirtual 199, 3) := by decide +kernel
theorem dX10_carries_137 : decode cX10_carries 137 = .ok (.ireturn, 1) := by decide +kernel
theorem dX10_carries_138 : decode cX10_carries 138 = .ok (.aload_n 0, 1) := by decide +kernel
theorem dX10_carries_139 : decode cX10_carries 139 = .ok (.iload_n 2, 1) := by decide +kernel
theorem dX10_carries_140 : decode cX10_carries 140 = .ok (.aload_n 0, 1) := by decide +kernel
theorem dX10_carries_141 : decode cX10_carries 141 = .ok (.getfield 36, 3) := by decide +kernel
theorem dX10_carries_144 : decode cX10_carries 144 = .ok (.iload_n 1, 1) := by decide +kernel
theorem dX10_carries_145 : decode cX10_carries 145 = .ok (.iconst 2, 1) := by decide +kernel
theorem dX10_carries_146 : decode cX10_carries 146 = .ok (.iadd, 1) := by decide +kernel
theorem dX10_carries_147 : decode cX10_carries 147 = .ok (.iaload, 1) := by decide +kernel
theorem dX10_carries_148 : decode cX10_carries 148 = .ok (.aload_n 0, 1) := by decide +kernel
theorem dX10_carries_149 : decode cX10_carries 149 = .ok (.getfield 36, 3) := by decide +kernel
theorem dX10_carries_152 : decode cX10_carries 152 = .ok (.iload_n 1, 1) := by decide +kernel
theorem dX10_carries_153 : decode cX10_carries 153 = .ok (.iconst 3, 1) := by decide +kernel
theorem dX10_carries_154 : decode cX10_carries 154 = .ok (.iadd, 1) := by decide +kernel
theorem dX10_carries_155 : decode cX10_carries 155 = .ok (.iaload, 1) := by decide +kernel
theorem dX10_carries_156 : decode cX10_carries 156 = .ok (.invokevirtual 202, 3) := by decide +kernel
theorem dX10_carries_159 : decode cX10_carries 159 = .ok (.ireturn, 1) := by decide +kernel
theorem dX10_carries_160 : decode cX10_carries 160 = .ok (.aload_n 0, 1) := by decide +kernel
theorem dX10_carries_161 : decode cX10_carries 161 = .ok (.iload_n 2, 1) := by decide +kernel
theorem dX10_carries_162 : decode cX10_carries 162 = .ok (.invokevirtual 205, 3) := by decide +kernel
theorem dX10_carries_165 : decode cX10_carries 165 = .ok (.ireturn, 1) := by decide +kernel
theorem dX10_carries_166 : decode cX10_carries 166 = .ok (.aload_n 0, 1) := by decide +kernel
theorem dX10_carries_167 : decode cX10_carries 167 = .ok (.iload_n 2, 1) := by decide +kernel
theorem dX10_carries_168 : decode cX10_carries 168 = .ok (.invokevirtual 208, 3) := by decide +kernel
theorem dX10_carries_171 : decode cX10_carries 171 = .ok (.ireturn, 1) := by decide +kernel
theorem dX10_carries_172 : decode cX10_carries 172 = .ok (.aload_n 0, 1) := by decide +kernel
theorem dX10_carries_173 : decode cX10_carries 173 = .ok (.iload_n 2, 1) := by decide +kernel
theorem dX10_carries_174 : decode cX10_carries 174 = .ok (.invokevirtual 211, 3) := by decide +kernel
theorem dX10_carries_177 : decode cX10_carries 177 = .ok (.ireturn, 1) := by decide +kernel
theorem dX10_carries_178 : decode cX10_carries 178 = .ok (.aload_n 0, 1) := by decide +kernel
theorem dX10_carries_179 : decode cX10_carries 179 = .ok (.iload_n 2, 1) := by decide +kernel
theorem dX10_carries_180 : decode cX10_carries 180 = .ok (.invokevirtual 214, 3) := by decide +kernel
theorem dX10_carries_183 : decode cX10_carries 183 = .ok (.ireturn, 1) := by decide +kernel
theorem dX10_carries_184 : decode cX10_carries 184 = .ok (.aload_n 0, 1) := by decide +kernel
theorem dX10_carries_185 : decode cX10_carries 185 = .ok (.invokevirtual 217, 3) := by decide +kernel
theorem dX10_carries_188 : decode cX10_carries 188 = .ok (.ireturn, 1) := by decide +kernel
theorem dX10_carries_189 : decode cX10_carries 189 = .ok (.aload_n 0, 1) := by decide +kernel
theorem dX10_carries_190 : decode cX10_carries 190 = .ok (.iload_n 2, 1) := by decide +kernel
theorem dX10_carries_191 : decode cX10_carries 191 = .ok (.invokevirtual 220, 3) := by decide +kernel
theorem dX10_carries_194 : decode cX10_carries 194 = .ok (.ireturn, 1) := by decide +kernel
theorem dX10_carries_195 : decode cX10_carries 195 = .ok (.aload_n 0, 1) := by decide +kernel
theorem dX10_carries_196 : decode cX10_carries 196 = .ok (.iload_n 2, 1) := by decide +kernel
theorem dX10_carries_197 : decode cX10_carries 197 = .ok (.invokevirtual 223, 3) := by decide +kernel
theorem dX10_carries_200 : decode cX10_carries 200 = .ok (.ireturn, 1) := by decide +kernel
theorem dX10_carries_201 : decode cX10_carries 201 = .ok (.aload_n 0, 1) := by decide +kernel
theorem dX10_carries_202 : decode cX10_carries 202 = .ok (.iload_n 2, 1) := by decide +kernel
theorem dX10_carries_203 : decode cX10_carries 203 = .ok (.invokevirtual 226, 3) := by decide +kernel
theorem dX10_carries_206 : decode cX10_carries 206 = .ok (.ireturn, 1) := by decide +kernel
theorem dX10_commands_0 : decode cX10_commands 0 = .ok (.aload_n 0, 1) := by decide +kernel
theorem dX10_commands_1 : decode cX10_commands 1 = .ok (.invokevirtual 229, 3) := by decide +kernel
theorem dX10_commands_4 : decode cX10_commands 4 = .ok (.istore_n 1, 1) := by decide +kernel
theorem dX10_commands_5 : decode cX10_commands 5 = .ok (.aload_n 0, 1) := by decide +kernel
theorem dX10_commands_6 : decode cX10_commands 6 = .ok (.iload_n 1, 1) := by decide +kernel
theorem dX10_commands_7 : decode cX10_commands 7 = .ok (.ifCond .eq 7, 3) := by decide +kernel
theorem dX10_commands_10 : decode cX10_commands 10 = .ok (.iconst (-1), 1) := by decide +kernel
theorem dX10_commands_11 : decode cX10_commands 11 = .ok (.goto 7, 3) := by decide +kernel
theorem dX10_commands_14 : decode cX10_commands 14 = .ok (.aload_n 0, 1) := by decide +kernel
theorem dX10_commands_15 : decode cX10_commands 15 = .ok (.getfield 171, 3) := by decide +kernel
theorem dX10_commands_18 : decode cX10_commands 18 = .ok (.putfield 28, 3) := by decide +kernel
theorem dX10_commands_21 : decode cX10_commands 21 = .ok (.aload_n 0, 1) := by decide +kernel
theorem dX10_commands_22 : decode cX10_commands 22 = .ok (.iconst 0, 1) := by decide +kernel
theorem dX10_commands_23 : decode cX10_commands 23 = .ok (.putfield 168, 3) := by decide +kernel
theorem dX10_commands_26 : decode cX10_commands 26 = .ok (.aload_n 0, 1) := by decide +kernel
theorem dX10_commands_27 : decode cX10_commands 27 = .ok (.iload_n 1, 1) := by decide +kernel
theorem dX10_commands_28 : decode cX10_commands 28 = .ok (.ifCond .eq 7, 3) := by decide +kernel
theorem dX10_commands_31 : decode cX10_commands 31 = .ok (.iconst 0, 1) := by decide +kernel
theorem dX10_commands_32 : decode cX10_commands 32 = .ok (.goto 4, 3) := by decide +kernel
theorem dX10_commands_35 : decode cX10_commands 35 = .ok (.iconst 1, 1) := by decide +kernel
theorem dX10_commands_36 : decode cX10_commands 36 = .ok (.invokevirtual 156, 3) := by decide +kernel
theorem dX10_commands_39 : decode cX10_commands 39 = .ok (.ifCond .eq 5, 3) := by decide +kernel
theorem dX10_commands_42 : decode cX10_commands 42 = .ok (.iconst 0, 1) := by decide +kernel
theorem dX10_commands_43 : decode cX10_commands 43 = .ok (.ireturn, 1) := by decide +kernel
theorem dX10_commands_44 : decode cX10_commands 44 = .ok (.aload_n 0, 1) := by decide +kernel
theorem dX10_commands_45 : decode cX10_commands 45 = .ok (.getfield 7, 3) := by decide +kernel
end
section
theorem dX10_commands_48 : decode cX10_commands 48 = .ok (.iconst 0, 1) := by decide +kernel
theorem dX10_commands_49 : decode cX10_commands 49 = .ok (.aload_n 0, 1) := by decide +kernel
theorem dX10_commands_50 : decode cX10_commands 50 = .ok (.getfield 19, 3) := by decide +kernel
theorem dX10_commands_53 : decode cX10_commands 53 = .ok (.iconst 0, 1) := by decide +kernel
theorem dX10_commands_54 : decode cX10_commands 54 = .ok (.invokestatic 61, 3) := by decide +kernel
theorem dX10_commands_57 : decode cX10_commands 57 = .ok (.aload_n 0, 1) := by decide +kernel
theorem dX10_commands_58 : decode cX10_commands 58 = .ok (.iconst 1, 1) := by decide +kernel
theorem dX10_commands_59 : decode cX10_commands 59 = .ok (.putfield 48, 3) := by decide +kernel
theorem dX10_commands_62 : decode cX10_commands 62 = .ok (.aload_n 0, 1) := by decide +kernel
theorem dX10_commands_63 : decode cX10_commands 63 = .ok (.iconst 0, 1) := by decide +kernel
theorem dX10_commands_64 : decode cX10_commands 64 = .ok (.putfield 52, 3) := by decide +kernel
theorem dX10_commands_67 : decode cX10_commands 67 = .ok (.iconst 0, 1) := by decide +kernel
theorem dX10_commands_68 : decode cX10_commands 68 = .ok (.istore_n 2, 1) := by decide +kernel
theorem dX10_commands_69 : decode cX10_commands 69 = .ok (.aload_n 0, 1) := by decide +kernel
theorem dX10_commands_70 : decode cX10_commands 70 = .ok (.getfield 52, 3) := by decide +kernel
theorem dX10_commands_73 : decode cX10_commands 73 = .ok (.aload_n 0, 1) := by decide +kernel
theorem dX10_commands_74 : decode cX10_commands 74 = .ok (.getfield 180, 3) := by decide +kernel
theorem dX10_commands_77 : decode cX10_commands 77 = .ok (.if_icmp .ge 41, 3) := by decide +kernel
theorem dX10_commands_80 : decode cX10_commands 80 = .ok (.aload_n 0, 1) := by decide +kernel
theorem dX10_commands_81 : decode cX10_commands 81 = .ok (.getfield 39, 3) := by decide +kernel
theorem dX10_commands_84 : decode cX10_commands 84 = .ok (.ifCond .ne 34, 3) := by decide +kernel
theorem dX10_commands_87 : decode cX10_commands 87 = .ok (.aload_n 0, 1) := by decide +kernel
theorem dX10_commands_88 : decode cX10_commands 88 = .ok (.iconst 4, 1) := by decide +kernel
theorem dX10_commands_89 : decode cX10_commands 89 = .ok (.aload_n 0, 1) := by decide +kernel
theorem dX10_commands_90 : decode cX10_commands 90 = .ok (.getfield 52, 3) := by decide +kernel
theorem dX10_commands_93 : decode cX10_commands 93 = .ok (.imul, 1) := by decide +kernel
theorem dX10_commands_94 : decode cX10_commands 94 = .ok (.invokevirtual 232, 3) := by decide +kernel
theorem dX10_commands_97 : decode cX10_commands 97 = .ok (.istore_n 2, 1) := by decide +kernel
theorem dX10_commands_98 : decode cX10_commands 98 = .ok (.aload_n 0, 1) := by decide +kernel
theorem dX10_commands_99 : decode cX10_commands 99 = .ok (.getfield 39, 3) := by decide +kernel
theorem dX10_commands_102 : decode cX10_commands 102 = .ok (.ifCond .ne (-33), 3) := by decide +kernel
theorem dX10_commands_105 : decode cX10_commands 105 = .ok (.aload_n 0, 1) := by decide +kernel
theorem dX10_commands_106 : decode cX10_commands 106 = .ok (.dup, 1) := by decide +kernel
theorem dX10_commands_107 : decode cX10_commands 107 = .ok (.getfield 52, 3) := by decide +kernel
theorem dX10_commands_110 : decode cX10_commands 110 = .ok (.iconst 1, 1) := by decide +kernel
theorem dX10_commands_111 : decode cX10_commands 111 = .ok (.iadd, 1) := by decide +kernel
theorem dX10_commands_112 : decode cX10_commands 112 = .ok (.putfield 52, 3) := by decide +kernel
theorem dX10_commands_115 : decode cX10_commands 115 = .ok (.goto (-46), 3) := by decide +kernel
theorem dX10_commands_118 : decode cX10_commands 118 = .ok (.aload_n 0, 1) := by decide +kernel
theorem dX10_commands_119 : decode cX10_commands 119 = .ok (.iconst 0, 1) := by decide +kernel
theorem dX10_commands_120 : decode cX10_commands 120 = .ok (.putfield 48, 3) := by decide +kernel
theorem dX10_commands_123 : decode cX10_commands 123 = .ok (.aload_n 0, 1) := by decide +kernel
theorem dX10_commands_124 : decode cX10_commands 124 = .ok (.getfield 39, 3) := by decide +kernel
theorem dX10_commands_127 : decode cX10_commands 127 = .ok (.ifCond .le 31, 3) := by decide +kernel
theorem dX10_commands_130 : decode cX10_commands 130 = .ok (.aload_n 0, 1) := by decide +kernel
theorem dX10_commands_131 : decode cX10_commands 131 = .ok (.getfield 19, 3) := by decide +kernel
theorem dX10_commands_134 : decode cX10_commands 134 = .ok (.iconst 0, 1) := by decide +kernel
theorem dX10_commands_135 : decode cX10_commands 135 = .ok (.aload_n 0, 1) := by decide +kernel
theorem dX10_commands_136 : decode cX10_commands 136 = .ok (.getfield 7, 3) := by decide +kernel
theorem dX10_commands_139 : decode cX10_commands 139 = .ok (.iconst 0, 1) := by decide +kernel
theorem dX10_commands_140 : decode cX10_commands 140 = .ok (.invokestatic 61, 3) := by decide +kernel
theorem dX10_commands_143 : decode cX10_commands 143 = .ok (.aload_n 0, 1) := by decide +kernel
theorem dX10_commands_144 : decode cX10_commands 144 = .ok (.iconst 2, 1) := by decide +kernel
theorem dX10_commands_145 : decode cX10_commands 145 = .ok (.putfield 39, 3) := by decide +kernel
theorem dX10_commands_148 : decode cX10_commands 148 = .ok (.iload_n 2, 1) := by decide +kernel
theorem dX10_commands_149 : decode cX10_commands 149 = .ok (.ifCond .le 7, 3) := by decide +kernel
theorem dX10_commands_152 : decode cX10_commands 152 = .ok (.iconst 0, 1) := by decide +kernel
theorem dX10_commands_153 : decode cX10_commands 153 = .ok (.goto 4, 3) := by decide +kernel
theorem dX10_commands_156 : decode cX10_commands 156 = .ok (.iload_n 2, 1) := by decide +kernel
theorem dX10_commands_157 : decode cX10_commands 157 = .ok (.ireturn, 1) := by decide +kernel
theorem dX10_commands_158 : decode cX10_commands 158 = .ok (.aload_n 0, 1) := by decide +kernel
theorem dX10_commands_159 : decode cX10_commands 159 = .ok (.aload_n 0, 1) := by decide +kernel
theorem dX10_commands_160 : decode cX10_commands 160 = .ok (.getfield 19, 3) := by decide +kernel
theorem dX10_commands_163 : decode cX10_commands 163 = .ok (.invokevirtual 117, 3) := by decide +kernel
theorem dX10_commands_166 : decode cX10_commands 166 = .ok (.aload_n 0, 1) := by decide +kernel
theorem dX10_commands_167 : decode cX10_commands 167 = .ok (.getfield 180, 3) := by decide +kernel
theorem dX10_commands_170 : decode cX10_commands 170 = .ok (.ireturn, 1) := by decide +kernel
theorem dX10_faultPosition_0 : decode cX10_faultPosition 0 = .ok (.aload_n 0, 1) := by decide +kernel
theorem dX10_faultPosition_1 : decode cX10_faultPosition 1 = .ok (.iconst 0, 1) := by decide +kernel
theorem dX10_faultPosition_2 : decode cX10_faultPosition 2 = .ok (.putfield 39, 3) := by decide +kernel
theorem dX10_faultPosition_5 : decode cX10_faultPosition 5 = .ok (.aload_n 0, 1) := by decide +kernel
theorem dX10_faultPosition_6 : decode cX10_faultPosition 6 = .ok (.getfield 28, 3) := by decide +kernel
theorem dX10_faultPosition_9 : decode cX10_faultPosition 9 = .ok (.ireturn, 1) := by decide +kernel
theorem dX10_reason_0 : decode cX10_reason 0 = .ok (.aload_n 0, 1) := by decide +kernel
theorem dX10_reason_1 : decode cX10_reason 1 = .ok (.iload_n 1, 1) := by decide +kernel
theorem dX10_reason_2 : decode cX10_reason 2 = .ok (.iconst 0, 1) := by decide +kernel
theorem dX10_reason_3 : decode cX10_reason 3 = .ok (.iconst 2, 1) := by decide +kernel
theorem dX10_reason_4 : decode cX10_reason 4 = .ok (.invokestatic 65, 3) := by decide +kernel
theorem dX10_reason_7 : decode cX10_reason 7 = .ok (.ifCond .ne 7, 3) := by decide +kernel
theorem dX10_reason_10 : decode cX10_reason 10 = .ok (.iconst 1, 1) := by decide +kernel
theorem dX10_reason_11 : decode cX10_reason 11 = .ok (.goto 15, 3) := by decide +kernel
theorem dX10_reason_14 : decode cX10_reason 14 = .ok (.aload_n 0, 1) := by decide +kernel
theorem dX10_reason_15 : decode cX10_reason 15 = .ok (.getfield 42, 3) := by decide +kernel
theorem dX10_reason_18 : decode cX10_reason 18 = .ok (.ifCond .ne 7, 3) := by decide +kernel
theorem dX10_reason_21 : decode cX10_reason 21 = .ok (.iconst 2, 1) := by decide +kernel
theorem dX10_reason_22 : decode cX10_reason 22 = .ok (.goto 4, 3) := by decide +kernel
theorem dX10_reason_25 : decode cX10_reason 25 = .ok (.iconst 0, 1) := by decide +kernel
theorem dX10_reason_26 : decode cX10_reason 26 = .ok (.invokevirtual 156, 3) := by decide +kernel
theorem dX10_reason_29 : decode cX10_reason 29 = .ok (.ifCond .eq 7, 3) := by decide +kernel
theorem dX10_reason_32 : decode cX10_reason 32 = .ok (.iconst 0, 1) := by decide +kernel
theorem dX10_reason_33 : decode cX10_reason 33 = .ok (.goto 30, 3) := by decide +kernel
theorem dX10_reason_36 : decode cX10_reason 36 = .ok (.iload_n 1, 1) := by decide +kernel
theorem dX10_reason_37 : decode cX10_reason 37 = .ok (.ifCond .ne 10, 3) := by decide +kernel
theorem dX10_reason_40 : decode cX10_reason 40 = .ok (.aload_n 0, 1) := by decide +kernel
theorem dX10_reason_41 : decode cX10_reason 41 = .ok (.getfield 42, 3) := by decide +kernel
theorem dX10_reason_44 : decode cX10_reason 44 = .ok (.goto 19, 3) := by decide +kernel
theorem dX10_reason_47 : decode cX10_reason 47 = .ok (.iload_n 1, 1) := by decide +kernel
theorem dX10_reason_48 : decode cX10_reason 48 = .ok (.iconst 1, 1) := by decide +kernel
theorem dX10_reason_49 : decode cX10_reason 49 = .ok (.if_icmp .ne 10, 3) := by decide +kernel
theorem dX10_reason_52 : decode cX10_reason 52 = .ok (.aload_n 0, 1) := by decide +kernel
theorem dX10_reason_53 : decode cX10_reason 53 = .ok (.getfield 45, 3) := by decide +kernel
theorem dX10_reason_56 : decode cX10_reason 56 = .ok (.goto 7, 3) := by decide +kernel
theorem dX10_reason_59 : decode cX10_reason 59 = .ok (.aload_n 0, 1) := by decide +kernel
theorem dX10_reason_60 : decode cX10_reason 60 = .ok (.getfield 55, 3) := by decide +kernel
theorem dX10_reason_63 : decode cX10_reason 63 = .ok (.ireturn, 1) := by decide +kernel
theorem dX10_writes_0 : decode cX10_writes 0 = .ok (.aload_n 0, 1) := by decide +kernel
theorem dX10_writes_1 : decode cX10_writes 1 = .ok (.getfield 32, 3) := by decide +kernel
theorem dX10_writes_4 : decode cX10_writes 4 = .ok (.aload_n 0, 1) := by decide +kernel
theorem dX10_writes_5 : decode cX10_writes 5 = .ok (.getfield 235, 3) := by decide +kernel
theorem dX10_writes_8 : decode cX10_writes 8 = .ok (.iload_n 1, 1) := by decide +kernel
theorem dX10_writes_9 : decode cX10_writes 9 = .ok (.i2c, 1) := by decide +kernel
theorem dX10_writes_10 : decode cX10_writes 10 = .ok (.castore, 1) := by decide +kernel
theorem dX10_writes_11 : decode cX10_writes 11 = .ok (.aload_n 0, 1) := by decide +kernel
theorem dX10_writes_12 : decode cX10_writes 12 = .ok (.dup, 1) := by decide +kernel
theorem dX10_writes_13 : decode cX10_writes 13 = .ok (.getfield 235, 3) := by decide +kernel
theorem dX10_writes_16 : decode cX10_writes 16 = .ok (.iconst 1, 1) := by decide +kernel
theorem dX10_writes_17 : decode cX10_writes 17 = .ok (.iadd, 1) := by decide +kernel
theorem dX10_writes_18 : decode cX10_writes 18 = .ok (.putfield 235, 3) := by decide +kernel
theorem dX10_writes_21 : decode cX10_writes 21 = .ok (.return_, 1) := by decide +kernel
theorem dX10_writesNumber_0 : decode cX10_writesNumber 0 = .ok (.iload_n 1, 1) := by decide +kernel
theorem dX10_writesNumber_1 : decode cX10_writesNumber 1 = .ok (.bipush 9, 2) := by decide +kernel
theorem dX10_writesNumber_3 : decode cX10_writesNumber 3 = .ok (.if_icmp .le 14, 3) := by decide +kernel
theorem dX10_writesNumber_6 : decode cX10_writesNumber 6 = .ok (.aload_n 0, 1) := by decide +kernel
theorem dX10_writesNumber_7 : decode cX10_writesNumber 7 = .ok (.bipush 48, 2) := by decide +kernel
theorem dX10_writesNumber_9 : decode cX10_writesNumber 9 = .ok (.iload_n 1, 1) := by decide +kernel
theorem dX10_writesNumber_10 : decode cX10_writesNumber 10 = .ok (.bipush 10, 2) := by decide +kernel
theorem dX10_writesNumber_12 : decode cX10_writesNumber 12 = .ok (.idiv, 1) := by decide +kernel
theorem dX10_writesNumber_13 : decode cX10_writesNumber 13 = .ok (.iadd, 1) := by decide +kernel
theorem dX10_writesNumber_14 : decode cX10_writesNumber 14 = .ok (.invokevirtual 238, 3) := by decide +kernel
theorem dX10_writesNumber_17 : decode cX10_writesNumber 17 = .ok (.aload_n 0, 1) := by decide +kernel
theorem dX10_writesNumber_18 : decode cX10_writesNumber 18 = .ok (.bipush 48, 2) := by decide +kernel
theorem dX10_writesNumber_20 : decode cX10_writesNumber 20 = .ok (.iload_n 1, 1) := by decide +kernel
theorem dX10_writesNumber_21 : decode cX10_writesNumber 21 = .ok (.bipush 10, 2) := by decide +kernel
theorem dX10_writesNumber_23 : decode cX10_writesNumber 23 = .ok (.irem, 1) := by decide +kernel
theorem dX10_writesNumber_24 : decode cX10_writesNumber 24 = .ok (.iadd, 1) := by decide +kernel
theorem dX10_writesNumber_25 : decode cX10_writesNumber 25 = .ok (.invokevirtual 238, 3) := by decide +kernel
theorem dX10_writesNumber_28 : decode cX10_writesNumber 28 = .ok (.return_, 1) := by decide +kernel
theorem dX10_rack_0 : decode cX10_rack 0 = .ok (.aload_n 0, 1) := by decide +kernel
theorem dX10_rack_1 : decode cX10_rack 1 = .ok (.iload_n 1, 1) := by decide +kernel
theorem dX10_rack_2 : decode cX10_rack 2 = .ok (.iconst 0, 1) := by decide +kernel
theorem dX10_rack_3 : decode cX10_rack 3 = .ok (.iconst 3, 1) := by decide +kernel
theorem dX10_rack_4 : decode cX10_rack 4 = .ok (.invokestatic 65, 3) := by decide +kernel
theorem dX10_rack_7 : decode cX10_rack 7 = .ok (.ifCond .eq 7, 3) := by decide +kernel
theorem dX10_rack_10 : decode cX10_rack 10 = .ok (.iconst 0, 1) := by decide +kernel
theorem dX10_rack_11 : decode cX10_rack 11 = .ok (.goto 4, 3) := by decide +kernel
theorem dX10_rack_14 : decode cX10_rack 14 = .ok (.iconst 1, 1) := by decide +kernel
theorem dX10_rack_15 : decode cX10_rack 15 = .ok (.invokevirtual 156, 3) := by decide +kernel
theorem dX10_rack_18 : decode cX10_rack 18 = .ok (.ifCond .eq 5, 3) := by decide +kernel
theorem dX10_rack_21 : decode cX10_rack 21 = .ok (.iconst 0, 1) := by decide +kernel
theorem dX10_rack_22 : decode cX10_rack 22 = .ok (.ireturn, 1) := by decide +kernel
theorem dX10_rack_23 : decode cX10_rack 23 = .ok (.aload_n 0, 1) := by decide +kernel
theorem dX10_rack_24 : decode cX10_rack 24 = .ok (.iconst 0, 1) := by decide +kernel
theorem dX10_rack_25 : decode cX10_rack 25 = .ok (.putfield 235, 3) := by decide +kernel
theorem dX10_rack_28 : decode cX10_rack 28 = .ok (.iconst 0, 1) := by decide +kernel
theorem dX10_rack_29 : decode cX10_rack 29 = .ok (.istore_n 2, 1) := by decide +kernel
theorem dX10_rack_30 : decode cX10_rack 30 = .ok (.iload_n 2, 1) := by decide +kernel
theorem dX10_rack_31 : decode cX10_rack 31 = .ok (.bipush 10, 2) := by decide +kernel
theorem dX10_rack_33 : decode cX10_rack 33 = .ok (.if_icmp .ge 46, 3) := by decide +kernel
theorem dX10_rack_36 : decode cX10_rack 36 = .ok (.aload_n 0, 1) := by decide +kernel
theorem dX10_rack_37 : decode cX10_rack 37 = .ok (.iload_n 1, 1) := by decide +kernel
theorem dX10_rack_38 : decode cX10_rack 38 = .ok (.iload_n 2, 1) := by decide +kernel
theorem dX10_rack_39 : decode cX10_rack 39 = .ok (.invokevirtual 131, 3) := by decide +kernel
theorem dX10_rack_42 : decode cX10_rack 42 = .ok (.istore_n 3, 1) := by decide +kernel
theorem dX10_rack_43 : decode cX10_rack 43 = .ok (.aload_n 0, 1) := by decide +kernel
theorem dX10_rack_44 : decode cX10_rack 44 = .ok (.iload_n 3, 1) := by decide +kernel
theorem dX10_rack_45 : decode cX10_rack 45 = .ok (.ifCond .ge 8, 3) := by decide +kernel
theorem dX10_rack_48 : decode cX10_rack 48 = .ok (.bipush 46, 2) := by decide +kernel
theorem dX10_rack_50 : decode cX10_rack 50 = .ok (.goto 20, 3) := by decide +kernel
theorem dX10_rack_53 : decode cX10_rack 53 = .ok (.aload_n 0, 1) := by decide +kernel
theorem dX10_rack_54 : decode cX10_rack 54 = .ok (.iload_n 3, 1) := by decide +kernel
theorem dX10_rack_55 : decode cX10_rack 55 = .ok (.invokevirtual 91, 3) := by decide +kernel
theorem dX10_rack_58 : decode cX10_rack 58 = .ok (.ifCond .eq 8, 3) := by decide +kernel
theorem dX10_rack_61 : decode cX10_rack 61 = .ok (.bipush 65, 2) := by decide +kernel
theorem dX10_rack_63 : decode cX10_rack 63 = .ok (.goto 5, 3) := by decide +kernel
theorem dX10_rack_66 : decode cX10_rack 66 = .ok (.bipush 97, 2) := by decide +kernel
theorem dX10_rack_68 : decode cX10_rack 68 = .ok (.iload_n 3, 1) := by decide +kernel
theorem dX10_rack_69 : decode cX10_rack 69 = .ok (.iadd, 1) := by decide +kernel
theorem dX10_rack_70 : decode cX10_rack 70 = .ok (.invokevirtual 238, 3) := by decide +kernel
theorem dX10_rack_73 : decode cX10_rack 73 = .ok (.iinc 2 1, 3) := by decide +kernel
theorem dX10_rack_76 : decode cX10_rack 76 = .ok (.goto (-46), 3) := by decide +kernel
theorem dX10_rack_79 : decode cX10_rack 79 = .ok (.aload_n 0, 1) := by decide +kernel
theorem dX10_rack_80 : decode cX10_rack 80 = .ok (.getfield 235, 3) := by decide +kernel
theorem dX10_rack_83 : decode cX10_rack 83 = .ok (.ireturn, 1) := by decide +kernel
theorem dX10_line_0 : decode cX10_line 0 = .ok (.aload_n 0, 1) := by decide +kernel
theorem dX10_line_1 : decode cX10_line 1 = .ok (.aload_n 0, 1) := by decide +kernel
theorem dX10_line_2 : decode cX10_line 2 = .ok (.iload_n 1, 1) := by decide +kernel
theorem dX10_line_3 : decode cX10_line 3 = .ok (.invokevirtual 121, 3) := by decide +kernel
theorem dX10_line_6 : decode cX10_line 6 = .ok (.ifCond .eq 7, 3) := by decide +kernel
theorem dX10_line_9 : decode cX10_line 9 = .ok (.iconst 0, 1) := by decide +kernel
theorem dX10_line_10 : decode cX10_line 10 = .ok (.goto 4, 3) := by decide +kernel
theorem dX10_line_13 : decode cX10_line 13 = .ok (.iconst 1, 1) := by decide +kernel
theorem dX10_line_14 : decode cX10_line 14 = .ok (.invokevirtual 156, 3) := by decide +kernel
theorem dX10_line_17 : decode cX10_line 17 = .ok (.ifCond .eq 5, 3) := by decide +kernel
theorem dX10_line_20 : decode cX10_line 20 = .ok (.iconst 0, 1) := by decide +kernel
theorem dX10_line_21 : decode cX10_line 21 = .ok (.ireturn, 1) := by decide +kernel
theorem dX10_line_22 : decode cX10_line 22 = .ok (.aload_n 0, 1) := by decide +kernel
theorem dX10_line_23 : decode cX10_line 23 = .ok (.iconst 0, 1) := by decide +kernel
theorem dX10_line_24 : decode cX10_line 24 = .ok (.putfield 235, 3) := by decide +kernel
theorem dX10_line_27 : decode cX10_line 27 = .ok (.aload_n 0, 1) := by decide +kernel
theorem dX10_line_28 : decode cX10_line 28 = .ok (.aload_n 0, 1) := by decide +kernel
theorem dX10_line_29 : decode cX10_line 29 = .ok (.iload_n 1, 1) := by decide +kernel
theorem dX10_line_30 : decode cX10_line 30 = .ok (.iconst 0, 1) := by decide +kernel
theorem dX10_line_31 : decode cX10_line 31 = .ok (.invokevirtual 69, 3) := by decide +kernel
theorem dX10_line_34 : decode cX10_line 34 = .ok (.invokevirtual 241, 3) := by decide +kernel
theorem dX10_line_37 : decode cX10_line 37 = .ok (.aload_n 0, 1) := by decide +kernel
theorem dX10_line_38 : decode cX10_line 38 = .ok (.bipush 42, 2) := by decide +kernel
theorem dX10_line_40 : decode cX10_line 40 = .ok (.invokevirtual 238, 3) := by decide +kernel
theorem dX10_line_43 : decode cX10_line 43 = .ok (.aload_n 0, 1) := by decide +kernel
theorem dX10_line_44 : decode cX10_line 44 = .ok (.aload_n 0, 1) := by decide +kernel
theorem dX10_line_45 : decode cX10_line 45 = .ok (.iload_n 1, 1) := by decide +kernel
theorem dX10_line_46 : decode cX10_line 46 = .ok (.iconst 1, 1) := by decide +kernel
theorem dX10_line_47 : decode cX10_line 47 = .ok (.invokevirtual 69, 3) := by decide +kernel
theorem dX10_line_50 : decode cX10_line 50 = .ok (.invokevirtual 241, 3) := by decide +kernel
theorem dX10_line_53 : decode cX10_line 53 = .ok (.iconst 0, 1) := by decide +kernel
theorem dX10_line_54 : decode cX10_line 54 = .ok (.istore_n 2, 1) := by decide +kernel
theorem dX10_line_55 : decode cX10_line 55 = .ok (.iload_n 2, 1) := by decide +kernel
theorem dX10_line_56 : decode cX10_line 56 = .ok (.iconst 2, 1) := by decide +kernel
theorem dX10_line_57 : decode cX10_line 57 = .ok (.if_icmp .ge 63, 3) := by decide +kernel
theorem dX10_line_60 : decode cX10_line 60 = .ok (.aload_n 0, 1) := by decide +kernel
theorem dX10_line_61 : decode cX10_line 61 = .ok (.bipush 47, 2) := by decide +kernel
theorem dX10_line_63 : decode cX10_line 63 = .ok (.invokevirtual 238, 3) := by decide +kernel
theorem dX10_line_66 : decode cX10_line 66 = .ok (.aload_n 0, 1) := by decide +kernel
theorem dX10_line_67 : decode cX10_line 67 = .ok (.aload_n 0, 1) := by decide +kernel
theorem dX10_line_68 : decode cX10_line 68 = .ok (.iload_n 1, 1) := by decide +kernel
theorem dX10_line_69 : decode cX10_line 69 = .ok (.bipush 7, 2) := by decide +kernel
theorem dX10_line_71 : decode cX10_line 71 = .ok (.iload_n 2, 1) := by decide +kernel
theorem dX10_line_72 : decode cX10_line 72 = .ok (.iadd, 1) := by decide +kernel
theorem dX10_line_73 : decode cX10_line 73 = .ok (.invokevirtual 69, 3) := by decide +kernel
theorem dX10_line_76 : decode cX10_line 76 = .ok (.invokevirtual 241, 3) := by decide +kernel
theorem dX10_line_79 : decode cX10_line 79 = .ok (.aload_n 0, 1) := by decide +kernel
theorem dX10_line_80 : decode cX10_line 80 = .ok (.bipush 126, 2) := by decide +kernel
theorem dX10_line_82 : decode cX10_line 82 = .ok (.invokevirtual 238, 3) := by decide +kernel
theorem dX10_line_85 : decode cX10_line 85 = .ok (.aload_n 0, 1) := by decide +kernel
theorem dX10_line_86 : decode cX10_line 86 = .ok (.aload_n 0, 1) := by decide +kernel
theorem dX10_line_87 : decode cX10_line 87 = .ok (.iload_n 1, 1) := by decide +kernel
theorem dX10_line_88 : decode cX10_line 88 = .ok (.bipush 9, 2) := by decide +kernel
theorem dX10_line_90 : decode cX10_line 90 = .ok (.iload_n 2, 1) := by decide +kernel
theorem dX10_line_91 : decode cX10_line 91 = .ok (.iadd, 1) := by decide +kernel
theorem dX10_line_92 : decode cX10_line 92 = .ok (.invokevirtual 69, 3) := by decide +kernel
theorem dX10_line_95 : decode cX10_line 95 = .ok (.invokevirtual 241, 3) := by decide +kernel
theorem dX10_line_98 : decode cX10_line 98 = .ok (.aload_n 0, 1) := by decide +kernel
theorem dX10_line_99 : decode cX10_line 99 = .ok (.iload_n 1, 1) := by decide +kernel
theorem dX10_line_100 : decode cX10_line 100 = .ok (.iconst 5, 1) := by decide +kernel
theorem dX10_line_101 : decode cX10_line 101 = .ok (.invokevirtual 69, 3) := by decide +kernel
theorem dX10_line_104 : decode cX10_line 104 = .ok (.iload_n 2, 1) := by decide +kernel
theorem dX10_line_105 : decode cX10_line 105 = .ok (.if_icmp .ne 9, 3) := by decide +kernel
theorem dX10_line_108 : decode cX10_line 108 = .ok (.aload_n 0, 1) := by decide +kernel
theorem dX10_line_109 : decode cX10_line 109 = .ok (.bipush 33, 2) := by decide +kernel
theorem dX10_line_111 : decode cX10_line 111 = .ok (.invokevirtual 238, 3) := by decide +kernel
theorem dX10_line_114 : decode cX10_line 114 = .ok (.iinc 2 1, 3) := by decide +kernel
theorem dX10_line_117 : decode cX10_line 117 = .ok (.goto (-62), 3) := by decide +kernel
theorem dX10_line_120 : decode cX10_line 120 = .ok (.aload_n 0, 1) := by decide +kernel
theorem dX10_line_121 : decode cX10_line 121 = .ok (.getfield 235, 3) := by decide +kernel
theorem dX10_line_124 : decode cX10_line 124 = .ok (.ireturn, 1) := by decide +kernel
theorem dX10_character_0 : decode cX10_character 0 = .ok (.aload_n 0, 1) := by decide +kernel
theorem dX10_character_1 : decode cX10_character 1 = .ok (.iload_n 1, 1) := by decide +kernel
theorem dX10_character_2 : decode cX10_character 2 = .ok (.iconst 0, 1) := by decide +kernel
theorem dX10_character_3 : decode cX10_character 3 = .ok (.aload_n 0, 1) := by decide +kernel
theorem dX10_character_4 : decode cX10_character 4 = .ok (.getfield 235, 3) := by decide +kernel
theorem dX10_character_7 : decode cX10_character 7 = .ok (.iconst 1, 1) := by decide +kernel
theorem dX10_character_8 : decode cX10_character 8 = .ok (.isub, 1) := by decide +kernel
theorem dX10_character_9 : decode cX10_character 9 = .ok (.invokestatic 65, 3) := by decide +kernel
theorem dX10_character_12 : decode cX10_character 12 = .ok (.ifCond .eq 7, 3) := by decide +kernel
theorem dX10_character_15 : decode cX10_character 15 = .ok (.iconst 0, 1) := by decide +kernel
theorem dX10_character_16 : decode cX10_character 16 = .ok (.goto 4, 3) := by decide +kernel
theorem dX10_character_19 : decode cX10_character 19 = .ok (.iconst 1, 1) := by decide +kernel
theorem dX10_character_20 : decode cX10_character 20 = .ok (.invokevirtual 156, 3) := by decide +kernel
theorem dX10_character_23 : decode cX10_character 23 = .ok (.ifCond .eq 8, 3) := by decide +kernel
theorem dX10_character_26 : decode cX10_character 26 = .ok (.bipush 32, 2) := by decide +kernel
theorem dX10_character_28 : decode cX10_character 28 = .ok (.goto 9, 3) := by decide +kernel
theorem dX10_character_31 : decode cX10_character 31 = .ok (.aload_n 0, 1) := by decide +kernel
theorem dX10_character_32 : decode cX10_character 32 = .ok (.getfield 32, 3) := by decide +kernel
theorem dX10_character_35 : decode cX10_character 35 = .ok (.iload_n 1, 1) := by decide +kernel
theorem dX10_character_36 : decode cX10_character 36 = .ok (.caload, 1) := by decide +kernel
theorem dX10_character_37 : decode cX10_character 37 = .ok (.ireturn, 1) := by decide +kernel
theorem dX10_meanSmoke_0 : decode cX10_meanSmoke 0 = .ok (.aload_n 0, 1) := by decide +kernel
theorem dX10_meanSmoke_1 : decode cX10_meanSmoke 1 = .ok (.aload_n 0, 1) := by decide +kernel
theorem dX10_meanSmoke_2 : decode cX10_meanSmoke 2 = .ok (.getfield 7, 3) := by decide +kernel
theorem dX10_meanSmoke_5 : decode cX10_meanSmoke 5 = .ok (.iconst 0, 1) := by decide +kernel
theorem dX10_meanSmoke_6 : decode cX10_meanSmoke 6 = .ok (.iaload, 1) := by decide +kernel
theorem dX10_meanSmoke_7 : decode cX10_meanSmoke 7 = .ok (.ifCond .ne 7, 3) := by decide +kernel
theorem dX10_meanSmoke_10 : decode cX10_meanSmoke 10 = .ok (.iconst 1, 1) := by decide +kernel
theorem dX10_meanSmoke_11 : decode cX10_meanSmoke 11 = .ok (.goto 4, 3) := by decide +kernel
theorem dX10_meanSmoke_14 : decode cX10_meanSmoke 14 = .ok (.iconst 0, 1) := by decide +kernel
theorem dX10_meanSmoke_15 : decode cX10_meanSmoke 15 = .ok (.invokevirtual 156, 3) := by decide +kernel
theorem dX10_meanSmoke_18 : decode cX10_meanSmoke 18 = .ok (.ifCond .eq 5, 3) := by decide +kernel
theorem dX10_meanSmoke_21 : decode cX10_meanSmoke 21 = .ok (.iconst 0, 1) := by decide +kernel
theorem dX10_meanSmoke_22 : decode cX10_meanSmoke 22 = .ok (.ireturn, 1) := by decide +kernel
theorem dX10_meanSmoke_23 : decode cX10_meanSmoke 23 = .ok (.iconst 0, 1) := by decide +kernel
theorem dX10_meanSmoke_24 : decode cX10_meanSmoke 24 = .ok (.istore_n 1, 1) := by decide +kernel
theorem dX10_meanSmoke_25 : decode cX10_meanSmoke 25 = .ok (.iconst 0, 1) := by decide +kernel
theorem dX10_meanSmoke_26 : decode cX10_meanSmoke 26 = .ok (.istore_n 2, 1) := by decide +kernel
theorem dX10_meanSmoke_27 : decode cX10_meanSmoke 27 = .ok (.iload_n 2, 1) := by decide +kernel
theorem dX10_meanSmoke_28 : decode cX10_meanSmoke 28 = .ok (.aload_n 0, 1) := by decide +kernel
theorem dX10_meanSmoke_29 : decode cX10_meanSmoke 29 = .ok (.getfield 7, 3) := by decide +kernel
theorem dX10_meanSmoke_32 : decode cX10_meanSmoke 32 = .ok (.iconst 0, 1) := by decide +kernel
theorem dX10_meanSmoke_33 : decode cX10_meanSmoke 33 = .ok (.iaload, 1) := by decide +kernel
theorem dX10_meanSmoke_34 : decode cX10_meanSmoke 34 = .ok (.if_icmp .ge 18, 3) := by decide +kernel
theorem dX10_meanSmoke_37 : decode cX10_meanSmoke 37 = .ok (.iload_n 1, 1) := by decide +kernel
theorem dX10_meanSmoke_38 : decode cX10_meanSmoke 38 = .ok (.aload_n 0, 1) := by decide +kernel
theorem dX10_meanSmoke_39 : decode cX10_meanSmoke 39 = .ok (.iload_n 2, 1) := by decide +kernel
theorem dX10_meanSmoke_40 : decode cX10_meanSmoke 40 = .ok (.iconst 2, 1) := by decide +kernel
theorem dX10_meanSmoke_41 : decode cX10_meanSmoke 41 = .ok (.invokevirtual 165, 3) := by decide +kernel
theorem dX10_meanSmoke_44 : decode cX10_meanSmoke 44 = .ok (.iadd, 1) := by decide +kernel
theorem dX10_meanSmoke_45 : decode cX10_meanSmoke 45 = .ok (.istore_n 1, 1) := by decide +kernel
theorem dX10_meanSmoke_46 : decode cX10_meanSmoke 46 = .ok (.iinc 2 1, 3) := by decide +kernel
theorem dX10_meanSmoke_49 : decode cX10_meanSmoke 49 = .ok (.goto (-22), 3) := by decide +kernel
theorem dX10_meanSmoke_52 : decode cX10_meanSmoke 52 = .ok (.iload_n 1, 1) := by decide +kernel
theorem dX10_meanSmoke_53 : decode cX10_meanSmoke 53 = .ok (.i2f, 1) := by decide +kernel
theorem dX10_meanSmoke_54 : decode cX10_meanSmoke 54 = .ok (.iconst 2, 1) := by decide +kernel
theorem dX10_meanSmoke_55 : decode cX10_meanSmoke 55 = .ok (.aload_n 0, 1) := by decide +kernel
theorem dX10_meanSmoke_56 : decode cX10_meanSmoke 56 = .ok (.getfield 7, 3) := by decide +kernel
theorem dX10_meanSmoke_59 : decode cX10_meanSmoke 59 = .ok (.iconst 0, 1) := by decide +kernel
theorem dX10_meanSmoke_60 : decode cX10_meanSmoke 60 = .ok (.iaload, 1) := by decide +kernel
theorem dX10_meanSmoke_61 : decode cX10_meanSmoke 61 = .ok (.imul, 1) := by decide +kernel
theorem dX10_meanSmoke_62 : decode cX10_meanSmoke 62 = .ok (.i2f, 1) := by decide +kernel
theorem dX10_meanSmoke_63 : decode cX10_meanSmoke 63 = .ok (.fdiv, 1) := by decide +kernel
theorem dX10_meanSmoke_64 : decode cX10_meanSmoke 64 = .ok (.invokestatic 244, 3) := by decide +kernel
theorem dX10_meanSmoke_67 : decode cX10_meanSmoke 67 = .ok (.ireturn, 1) := by decide +kernel
theorem dX10_burntShare_0 : decode cX10_burntShare 0 = .ok (.aload_n 0, 1) := by decide +kernel
theorem dX10_burntShare_1 : decode cX10_burntShare 1 = .ok (.aload_n 0, 1) := by decide +kernel
theorem dX10_burntShare_2 : decode cX10_burntShare 2 = .ok (.getfield 7, 3) := by decide +kernel
theorem dX10_burntShare_5 : decode cX10_burntShare 5 = .ok (.iconst 0, 1) := by decide +kernel
theorem dX10_burntShare_6 : decode cX10_burntShare 6 = .ok (.iaload, 1) := by decide +kernel
theorem dX10_burntShare_7 : decode cX10_burntShare 7 = .ok (.ifCond .ne 7, 3) := by decide +kernel
theorem dX10_burntShare_10 : decode cX10_burntShare 10 = .ok (.iconst 1, 1) := by decide +kernel
theorem dX10_burntShare_11 : decode cX10_burntShare 11 = .ok (.goto 4, 3) := by decide +kernel
theorem dX10_burntShare_14 : decode cX10_burntShare 14 = .ok (.iconst 0, 1) := by decide +kernel
theorem dX10_burntShare_15 : decode cX10_burntShare 15 = .ok (.invokevirtual 156, 3) := by decide +kernel
theorem dX10_burntShare_18 : decode cX10_burntShare 18 = .ok (.ifCond .eq 7, 3) := by decide +kernel
theorem dX10_burntShare_21 : decode cX10_burntShare 21 = .ok (.dconst 0, 1) := by decide +kernel
theorem dX10_burntShare_22 : decode cX10_burntShare 22 = .ok (.goto 16, 3) := by decide +kernel
theorem dX10_burntShare_25 : decode cX10_burntShare 25 = .ok (.aload_n 0, 1) := by decide +kernel
theorem dX10_burntShare_26 : decode cX10_burntShare 26 = .ok (.invokevirtual 143, 3) := by decide +kernel
theorem dX10_burntShare_29 : decode cX10_burntShare 29 = .ok (.i2d, 1) := by decide +kernel
theorem dX10_burntShare_30 : decode cX10_burntShare 30 = .ok (.aload_n 0, 1) := by decide +kernel
theorem dX10_burntShare_31 : decode cX10_burntShare 31 = .ok (.getfield 7, 3) := by decide +kernel
theorem dX10_burntShare_34 : decode cX10_burntShare 34 = .ok (.iconst 0, 1) := by decide +kernel
theorem dX10_burntShare_35 : decode cX10_burntShare 35 = .ok (.iaload, 1) := by decide +kernel
theorem dX10_burntShare_36 : decode cX10_burntShare 36 = .ok (.i2d, 1) := by decide +kernel
theorem dX10_burntShare_37 : decode cX10_burntShare 37 = .ok (.ddiv, 1) := by decide +kernel
theorem dX10_burntShare_38 : decode cX10_burntShare 38 = .ok (.dreturn, 1) := by decide +kernel
theorem dX10_account_0 : decode cX10_account 0 = .ok (.aload_n 0, 1) := by decide +kernel
theorem dX10_account_1 : decode cX10_account 1 = .ok (.iload_n 1, 1) := by decide +kernel
theorem dX10_account_2 : decode cX10_account 2 = .ok (.iconst 0, 1) := by decide +kernel
theorem dX10_account_3 : decode cX10_account 3 = .ok (.bipush 11, 2) := by decide +kernel
theorem dX10_account_5 : decode cX10_account 5 = .ok (.invokestatic 65, 3) := by decide +kernel
theorem dX10_account_8 : decode cX10_account 8 = .ok (.ifCond .eq 7, 3) := by decide +kernel
theorem dX10_account_11 : decode cX10_account 11 = .ok (.iconst 0, 1) := by decide +kernel
theorem dX10_account_12 : decode cX10_account 12 = .ok (.goto 4, 3) := by decide +kernel
theorem dX10_account_15 : decode cX10_account 15 = .ok (.iconst 1, 1) := by decide +kernel
theorem dX10_account_16 : decode cX10_account 16 = .ok (.invokevirtual 156, 3) := by decide +kernel
theorem dX10_account_19 : decode cX10_account 19 = .ok (.ifCond .eq 5, 3) := by decide +kernel
theorem dX10_account_22 : decode cX10_account 22 = .ok (.iconst 0, 1) := by decide +kernel
theorem dX10_account_23 : decode cX10_account 23 = .ok (.ireturn, 1) := by decide +kernel
theorem dX10_account_24 : decode cX10_account 24 = .ok (.iload_n 1, 1) := by decide +kernel
theorem dX10_account_25 : decode cX10_account 25 = .ok (.tableswitch 106 0 11 #[63, 70, 76, 82, 89, 106, 106, 106, 106, 106, 96, 101], 63) := by decide +kernel
theorem dX10_account_88 : decode cX10_account 88 = .ok (.aload_n 0, 1) := by decide +kernel
theorem dX10_account_89 : decode cX10_account 89 = .ok (.getfield 7, 3) := by decide +kernel
theorem dX10_account_92 : decode cX10_account 92 = .ok (.iconst 0, 1) := by decide +kernel
theorem dX10_account_93 : decode cX10_account 93 = .ok (.iaload, 1) := by decide +kernel
theorem dX10_account_94 : decode cX10_account 94 = .ok (.ireturn, 1) := by decide +kernel
theorem dX10_account_95 : decode cX10_account 95 = .ok (.aload_n 0, 1) := by decide +kernel
theorem dX10_account_96 : decode cX10_account 96 = .ok (.iconst 1, 1) := by decide +kernel
theorem dX10_account_97 : decode cX10_account 97 = .ok (.invokevirtual 124, 3) := by decide +kernel
theorem dX10_account_100 : decode cX10_account 100 = .ok (.ireturn, 1) := by decide +kernel
theorem dX10_account_101 : decode cX10_account 101 = .ok (.aload_n 0, 1) := by decide +kernel
theorem dX10_account_102 : decode cX10_account 102 = .ok (.iconst 2, 1) := by decide +kernel
theorem dX10_account_103 : decode cX10_account 103 = .ok (.invokevirtual 124, 3) := by decide +kernel
theorem dX10_account_106 : decode cX10_account 106 = .ok (.ireturn, 1) := by decide +kernel
theorem dX10_account_107 : decode cX10_account 107 = .ok (.aload_n 0, 1) := by decide +kernel
theorem dX10_account_108 : decode cX10_account 108 = .ok (.getfield 7, 3) := by decide +kernel
theorem dX10_account_111 : decode cX10_account 111 = .ok (.iconst 1, 1) := by decide +kernel
theorem dX10_account_112 : decode cX10_account 112 = .ok (.iaload, 1) := by decide +kernel
theorem dX10_account_113 : decode cX10_account 113 = .ok (.ireturn, 1) := by decide +kernel
theorem dX10_account_114 : decode cX10_account 114 = .ok (.aload_n 0, 1) := by decide +kernel
theorem dX10_account_115 : decode cX10_account 115 = .ok (.getfield 7, 3) := by decide +kernel
theorem dX10_account_118 : decode cX10_account 118 = .ok (.iconst 2, 1) := by decide +kernel
theorem dX10_account_119 : decode cX10_account 119 = .ok (.iaload, 1) := by decide +kernel
theorem dX10_account_120 : decode cX10_account 120 = .ok (.ireturn, 1) := by decide +kernel
theorem dX10_account_121 : decode cX10_account 121 = .ok (.aload_n 0, 1) := by decide +kernel
theorem dX10_account_122 : decode cX10_account 122 = .ok (.getfield 58, 3) := by decide +kernel
theorem dX10_account_125 : decode cX10_account 125 = .ok (.ireturn, 1) := by decide +kernel
theorem dX10_account_126 : decode cX10_account 126 = .ok (.aload_n 0, 1) := by decide +kernel
theorem dX10_account_127 : decode cX10_account 127 = .ok (.getfield 168, 3) := by decide +kernel
theorem dX10_account_130 : decode cX10_account 130 = .ok (.ireturn, 1) := by decide +kernel
theorem dX10_account_131 : decode cX10_account 131 = .ok (.aload_n 0, 1) := by decide +kernel
theorem dX10_account_132 : decode cX10_account 132 = .ok (.getfield 7, 3) := by decide +kernel
theorem dX10_account_135 : decode cX10_account 135 = .ok (.iconst 3, 1) := by decide +kernel
theorem dX10_account_136 : decode cX10_account 136 = .ok (.iload_n 1, 1) := by decide +kernel
theorem dX10_account_137 : decode cX10_account 137 = .ok (.iadd, 1) := by decide +kernel
theorem dX10_account_138 : decode cX10_account 138 = .ok (.iconst 5, 1) := by decide +kernel
theorem dX10_account_139 : decode cX10_account 139 = .ok (.isub, 1) := by decide +kernel
theorem dX10_account_140 : decode cX10_account 140 = .ok (.iaload, 1) := by decide +kernel
theorem dX10_account_141 : decode cX10_account 141 = .ok (.ireturn, 1) := by decide +kernel
theorem dX10_undo_0 : decode cX10_undo 0 = .ok (.aload_n 0, 1) := by decide +kernel
theorem dX10_undo_1 : decode cX10_undo 1 = .ok (.aload_n 0, 1) := by decide +kernel
theorem dX10_undo_2 : decode cX10_undo 2 = .ok (.getfield 58, 3) := by decide +kernel
theorem dX10_undo_5 : decode cX10_undo 5 = .ok (.ifCond .ne 7, 3) := by decide +kernel
theorem dX10_undo_8 : decode cX10_undo 8 = .ok (.iconst 1, 1) := by decide +kernel
theorem dX10_undo_9 : decode cX10_undo 9 = .ok (.goto 4, 3) := by decide +kernel
theorem dX10_undo_12 : decode cX10_undo 12 = .ok (.iconst 0, 1) := by decide +kernel
theorem dX10_undo_13 : decode cX10_undo 13 = .ok (.invokevirtual 156, 3) := by decide +kernel
theorem dX10_undo_16 : decode cX10_undo 16 = .ok (.ifCond .eq 5, 3) := by decide +kernel
theorem dX10_undo_19 : decode cX10_undo 19 = .ok (.iconst 0, 1) := by decide +kernel
theorem dX10_undo_20 : decode cX10_undo 20 = .ok (.ireturn, 1) := by decide +kernel
theorem dX10_undo_21 : decode cX10_undo 21 = .ok (.aload_n 0, 1) := by decide +kernel
theorem dX10_undo_22 : decode cX10_undo 22 = .ok (.dup, 1) := by decide +kernel
theorem dX10_undo_23 : decode cX10_undo 23 = .ok (.getfield 58, 3) := by decide +kernel
theorem dX10_undo_26 : decode cX10_undo 26 = .ok (.iconst 1, 1) := by decide +kernel
theorem dX10_undo_27 : decode cX10_undo 27 = .ok (.isub, 1) := by decide +kernel
theorem dX10_undo_28 : decode cX10_undo 28 = .ok (.putfield 58, 3) := by decide +kernel
theorem dX10_undo_31 : decode cX10_undo 31 = .ok (.aload_n 0, 1) := by decide +kernel
theorem dX10_undo_32 : decode cX10_undo 32 = .ok (.getfield 13, 3) := by decide +kernel
theorem dX10_undo_35 : decode cX10_undo 35 = .ok (.sipush 140, 3) := by decide +kernel
theorem dX10_undo_38 : decode cX10_undo 38 = .ok (.aload_n 0, 1) := by decide +kernel
theorem dX10_undo_39 : decode cX10_undo 39 = .ok (.getfield 58, 3) := by decide +kernel
theorem dX10_undo_42 : decode cX10_undo 42 = .ok (.imul, 1) := by decide +kernel
theorem dX10_undo_43 : decode cX10_undo 43 = .ok (.aload_n 0, 1) := by decide +kernel
theorem dX10_undo_44 : decode cX10_undo 44 = .ok (.getfield 7, 3) := by decide +kernel
theorem dX10_undo_47 : decode cX10_undo 47 = .ok (.iconst 0, 1) := by decide +kernel
theorem dX10_undo_48 : decode cX10_undo 48 = .ok (.invokestatic 61, 3) := by decide +kernel
theorem dX10_undo_51 : decode cX10_undo 51 = .ok (.aload_n 0, 1) := by decide +kernel
theorem dX10_undo_52 : decode cX10_undo 52 = .ok (.getfield 58, 3) := by decide +kernel
theorem dX10_undo_55 : decode cX10_undo 55 = .ok (.ireturn, 1) := by decide +kernel
theorem dX10_save_0 : decode cX10_save 0 = .ok (.aload_n 0, 1) := by decide +kernel
theorem dX10_save_1 : decode cX10_save 1 = .ok (.iconst 0, 1) := by decide +kernel
theorem dX10_save_2 : decode cX10_save 2 = .ok (.putfield 39, 3) := by decide +kernel
theorem dX10_save_5 : decode cX10_save 5 = .ok (.aload_n 0, 1) := by decide +kernel
theorem dX10_save_6 : decode cX10_save 6 = .ok (.iconst 1, 1) := by decide +kernel
theorem dX10_save_7 : decode cX10_save 7 = .ok (.putfield 250, 3) := by decide +kernel
theorem dX10_save_10 : decode cX10_save 10 = .ok (.aload_n 0, 1) := by decide +kernel
theorem dX10_save_11 : decode cX10_save 11 = .ok (.getfield 7, 3) := by decide +kernel
theorem dX10_save_14 : decode cX10_save 14 = .ok (.iconst 0, 1) := by decide +kernel
theorem dX10_save_15 : decode cX10_save 15 = .ok (.aload_n 0, 1) := by decide +kernel
theorem dX10_save_16 : decode cX10_save 16 = .ok (.getfield 16, 3) := by decide +kernel
theorem dX10_save_19 : decode cX10_save 19 = .ok (.iconst 0, 1) := by decide +kernel
theorem dX10_save_20 : decode cX10_save 20 = .ok (.invokestatic 61, 3) := by decide +kernel
theorem dX10_save_23 : decode cX10_save 23 = .ok (.aload_n 0, 1) := by decide +kernel
theorem dX10_save_24 : decode cX10_save 24 = .ok (.getfield 7, 3) := by decide +kernel
theorem dX10_save_27 : decode cX10_save 27 = .ok (.iconst 0, 1) := by decide +kernel
theorem dX10_save_28 : decode cX10_save 28 = .ok (.iaload, 1) := by decide +kernel
theorem dX10_save_29 : decode cX10_save 29 = .ok (.ireturn, 1) := by decide +kernel
theorem dX10_restore_0 : decode cX10_restore 0 = .ok (.aload_n 0, 1) := by decide +kernel
theorem dX10_restore_1 : decode cX10_restore 1 = .ok (.aload_n 0, 1) := by decide +kernel
theorem dX10_restore_2 : decode cX10_restore 2 = .ok (.getfield 250, 3) := by decide +kernel
theorem dX10_restore_5 : decode cX10_restore 5 = .ok (.ifCond .eq 7, 3) := by decide +kernel
theorem dX10_restore_8 : decode cX10_restore 8 = .ok (.iconst 0, 1) := by decide +kernel
theorem dX10_restore_9 : decode cX10_restore 9 = .ok (.goto 4, 3) := by decide +kernel
theorem dX10_restore_12 : decode cX10_restore 12 = .ok (.iconst 1, 1) := by decide +kernel
theorem dX10_restore_13 : decode cX10_restore 13 = .ok (.invokevirtual 156, 3) := by decide +kernel
theorem dX10_restore_16 : decode cX10_restore 16 = .ok (.ifCond .eq 5, 3) := by decide +kernel
theorem dX10_restore_19 : decode cX10_restore 19 = .ok (.iconst 0, 1) := by decide +kernel
theorem dX10_restore_20 : decode cX10_restore 20 = .ok (.ireturn, 1) := by decide +kernel
theorem dX10_restore_21 : decode cX10_restore 21 = .ok (.aload_n 0, 1) := by decide +kernel
theorem dX10_restore_22 : decode cX10_restore 22 = .ok (.getfield 16, 3) := by decide +kernel
theorem dX10_restore_25 : decode cX10_restore 25 = .ok (.iconst 0, 1) := by decide +kernel
theorem dX10_restore_26 : decode cX10_restore 26 = .ok (.aload_n 0, 1) := by decide +kernel
theorem dX10_restore_27 : decode cX10_restore 27 = .ok (.getfield 7, 3) := by decide +kernel
theorem dX10_restore_30 : decode cX10_restore 30 = .ok (.iconst 0, 1) := by decide +kernel
theorem dX10_restore_31 : decode cX10_restore 31 = .ok (.invokestatic 61, 3) := by decide +kernel
theorem dX10_restore_34 : decode cX10_restore 34 = .ok (.aload_n 0, 1) := by decide +kernel
theorem dX10_restore_35 : decode cX10_restore 35 = .ok (.iconst 0, 1) := by decide +kernel
theorem dX10_restore_36 : decode cX10_restore 36 = .ok (.putfield 58, 3) := by decide +kernel
theorem dX10_restore_39 : decode cX10_restore 39 = .ok (.aload_n 0, 1) := by decide +kernel
theorem dX10_restore_40 : decode cX10_restore 40 = .ok (.getfield 7, 3) := by decide +kernel
theorem dX10_restore_43 : decode cX10_restore 43 = .ok (.iconst 0, 1) := by decide +kernel
theorem dX10_restore_44 : decode cX10_restore 44 = .ok (.iaload, 1) := by decide +kernel
theorem dX10_restore_45 : decode cX10_restore 45 = .ok (.ireturn, 1) := by decide +kernel
theorem dL_fish_0 : decode cL_fish 0 = .ok (.aload_n 2, 1) := by decide +kernel
theorem dL_fish_1 : decode cL_fish 1 = .ok (.iconst 0, 1) := by decide +kernel
theorem dL_fish_2 : decode cL_fish 2 = .ok (.aload_n 0, 1) := by decide +kernel
theorem dL_fish_3 : decode cL_fish 3 = .ok (.iload_n 1, 1) := by decide +kernel
theorem dL_fish_4 : decode cL_fish 4 = .ok (.invokevirtual 7, 3) := by decide +kernel
theorem dL_fish_7 : decode cL_fish 7 = .ok (.i2l, 1) := by decide +kernel
theorem dL_fish_8 : decode cL_fish 8 = .ok (.lastore, 1) := by decide +kernel
theorem dL_fish_9 : decode cL_fish 9 = .ok (.goto 6, 3) := by decide +kernel
theorem dL_fish_12 : decode cL_fish 12 = .ok (.astore_n 3, 1) := by decide +kernel
theorem dL_fish_13 : decode cL_fish 13 = .ok (.iconst 1, 1) := by decide +kernel
theorem dL_fish_14 : decode cL_fish 14 = .ok (.ireturn, 1) := by decide +kernel
theorem dL_fish_15 : decode cL_fish 15 = .ok (.iconst 0, 1) := by decide +kernel
theorem dL_fish_16 : decode cL_fish 16 = .ok (.ireturn, 1) := by decide +kernel
theorem dL_brine_0 : decode cL_brine 0 = .ok (.aload_n 2, 1) := by decide +kernel
theorem dL_brine_1 : decode cL_brine 1 = .ok (.iconst 0, 1) := by decide +kernel
theorem dL_brine_2 : decode cL_brine 2 = .ok (.aload_n 0, 1) := by decide +kernel
theorem dL_brine_3 : decode cL_brine 3 = .ok (.iload_n 1, 1) := by decide +kernel
theorem dL_brine_4 : decode cL_brine 4 = .ok (.invokevirtual 15, 3) := by decide +kernel
theorem dL_brine_7 : decode cL_brine 7 = .ok (.i2l, 1) := by decide +kernel
theorem dL_brine_8 : decode cL_brine 8 = .ok (.lastore, 1) := by decide +kernel
theorem dL_brine_9 : decode cL_brine 9 = .ok (.goto 6, 3) := by decide +kernel
theorem dL_brine_12 : decode cL_brine 12 = .ok (.astore_n 3, 1) := by decide +kernel
theorem dL_brine_13 : decode cL_brine 13 = .ok (.iconst 1, 1) := by decide +kernel
theorem dL_brine_14 : decode cL_brine 14 = .ok (.ireturn, 1) := by decide +kernel
theorem dL_brine_15 : decode cL_brine 15 = .ok (.iconst 0, 1) := by decide +kernel
theorem dL_brine_16 : decode cL_brine 16 = .ok (.ireturn, 1) := by decide +kernel
theorem dL_out_0 : decode cL_out 0 = .ok (.aload_n 2, 1) := by decide +kernel
theorem dL_out_1 : decode cL_out 1 = .ok (.iconst 0, 1) := by decide +kernel
theorem dL_out_2 : decode cL_out 2 = .ok (.aload_n 0, 1) := by decide +kernel
theorem dL_out_3 : decode cL_out 3 = .ok (.iload_n 1, 1) := by decide +kernel
theorem dL_out_4 : decode cL_out 4 = .ok (.invokevirtual 18, 3) := by decide +kernel
theorem dL_out_7 : decode cL_out 7 = .ok (.i2l, 1) := by decide +kernel
theorem dL_out_8 : decode cL_out 8 = .ok (.lastore, 1) := by decide +kernel
theorem dL_out_9 : decode cL_out 9 = .ok (.goto 6, 3) := by decide +kernel
theorem dL_out_12 : decode cL_out 12 = .ok (.astore_n 3, 1) := by decide +kernel
theorem dL_out_13 : decode cL_out 13 = .ok (.iconst 1, 1) := by decide +kernel
theorem dL_out_14 : decode cL_out 14 = .ok (.ireturn, 1) := by decide +kernel
theorem dL_out_15 : decode cL_out 15 = .ok (.iconst 0, 1) := by decide +kernel
theorem dL_out_16 : decode cL_out 16 = .ok (.ireturn, 1) := by decide +kernel
theorem dL_hang_0 : decode cL_hang 0 = .ok (.aload 4, 2) := by decide +kernel
theorem dL_hang_2 : decode cL_hang 2 = .ok (.iconst 0, 1) := by decide +kernel
theorem dL_hang_3 : decode cL_hang 3 = .ok (.aload_n 0, 1) := by decide +kernel
theorem dL_hang_4 : decode cL_hang 4 = .ok (.iload_n 1, 1) := by decide +kernel
theorem dL_hang_5 : decode cL_hang 5 = .ok (.iload_n 2, 1) := by decide +kernel
theorem dL_hang_6 : decode cL_hang 6 = .ok (.iload_n 3, 1) := by decide +kernel
theorem dL_hang_7 : decode cL_hang 7 = .ok (.invokevirtual 21, 3) := by decide +kernel
theorem dL_hang_10 : decode cL_hang 10 = .ok (.i2l, 1) := by decide +kernel
theorem dL_hang_11 : decode cL_hang 11 = .ok (.lastore, 1) := by decide +kernel
theorem dL_hang_12 : decode cL_hang 12 = .ok (.goto 7, 3) := by decide +kernel
theorem dL_hang_15 : decode cL_hang 15 = .ok (.astore 5, 2) := by decide +kernel
theorem dL_hang_17 : decode cL_hang 17 = .ok (.iconst 1, 1) := by decide +kernel
theorem dL_hang_18 : decode cL_hang 18 = .ok (.ireturn, 1) := by decide +kernel
theorem dL_hang_19 : decode cL_hang 19 = .ok (.iconst 0, 1) := by decide +kernel
theorem dL_hang_20 : decode cL_hang 20 = .ok (.ireturn, 1) := by decide +kernel
theorem dL_turn_0 : decode cL_turn 0 = .ok (.aload_n 2, 1) := by decide +kernel
theorem dL_turn_1 : decode cL_turn 1 = .ok (.iconst 0, 1) := by decide +kernel
theorem dL_turn_2 : decode cL_turn 2 = .ok (.aload_n 0, 1) := by decide +kernel
theorem dL_turn_3 : decode cL_turn 3 = .ok (.iload_n 1, 1) := by decide +kernel
theorem dL_turn_4 : decode cL_turn 4 = .ok (.invokevirtual 25, 3) := by decide +kernel
theorem dL_turn_7 : decode cL_turn 7 = .ok (.i2l, 1) := by decide +kernel
theorem dL_turn_8 : decode cL_turn 8 = .ok (.lastore, 1) := by decide +kernel
theorem dL_turn_9 : decode cL_turn 9 = .ok (.goto 6, 3) := by decide +kernel
theorem dL_turn_12 : decode cL_turn 12 = .ok (.astore_n 3, 1) := by decide +kernel
theorem dL_turn_13 : decode cL_turn 13 = .ok (.iconst 1, 1) := by decide +kernel
theorem dL_turn_14 : decode cL_turn 14 = .ok (.ireturn, 1) := by decide +kernel
theorem dL_turn_15 : decode cL_turn 15 = .ok (.iconst 0, 1) := by decide +kernel
theorem dL_turn_16 : decode cL_turn 16 = .ok (.ireturn, 1) := by decide +kernel
theorem dL_turnAll_0 : decode cL_turnAll 0 = .ok (.aload_n 2, 1) := by decide +kernel
theorem dL_turnAll_1 : decode cL_turnAll 1 = .ok (.iconst 0, 1) := by decide +kernel
theorem dL_turnAll_2 : decode cL_turnAll 2 = .ok (.aload_n 0, 1) := by decide +kernel
theorem dL_turnAll_3 : decode cL_turnAll 3 = .ok (.iload_n 1, 1) := by decide +kernel
theorem dL_turnAll_4 : decode cL_turnAll 4 = .ok (.invokevirtual 28, 3) := by decide +kernel
theorem dL_turnAll_7 : decode cL_turnAll 7 = .ok (.i2l, 1) := by decide +kernel
theorem dL_turnAll_8 : decode cL_turnAll 8 = .ok (.lastore, 1) := by decide +kernel
theorem dL_turnAll_9 : decode cL_turnAll 9 = .ok (.goto 6, 3) := by decide +kernel
theorem dL_turnAll_12 : decode cL_turnAll 12 = .ok (.astore_n 3, 1) := by decide +kernel
theorem dL_turnAll_13 : decode cL_turnAll 13 = .ok (.iconst 1, 1) := by decide +kernel
theorem dL_turnAll_14 : decode cL_turnAll 14 = .ok (.ireturn, 1) := by decide +kernel
theorem dL_turnAll_15 : decode cL_turnAll 15 = .ok (.iconst 0, 1) := by decide +kernel
theorem dL_turnAll_16 : decode cL_turnAll 16 = .ok (.ireturn, 1) := by decide +kernel
theorem dL_logs_0 : decode cL_logs 0 = .ok (.aload_n 2, 1) := by decide +kernel
theorem dL_logs_1 : decode cL_logs 1 = .ok (.iconst 0, 1) := by decide +kernel
theorem dL_logs_2 : decode cL_logs 2 = .ok (.aload_n 0, 1) := by decide +kernel
theorem dL_logs_3 : decode cL_logs 3 = .ok (.iload_n 1, 1) := by decide +kernel
theorem dL_logs_4 : decode cL_logs 4 = .ok (.invokevirtual 31, 3) := by decide +kernel
theorem dL_logs_7 : decode cL_logs 7 = .ok (.i2l, 1) := by decide +kernel
theorem dL_logs_8 : decode cL_logs 8 = .ok (.lastore, 1) := by decide +kernel
theorem dL_logs_9 : decode cL_logs 9 = .ok (.goto 6, 3) := by decide +kernel
theorem dL_logs_12 : decode cL_logs 12 = .ok (.astore_n 3, 1) := by decide +kernel
theorem dL_logs_13 : decode cL_logs 13 = .ok (.iconst 1, 1) := by decide +kernel
theorem dL_logs_14 : decode cL_logs 14 = .ok (.ireturn, 1) := by decide +kernel
theorem dL_logs_15 : decode cL_logs 15 = .ok (.iconst 0, 1) := by decide +kernel
theorem dL_logs_16 : decode cL_logs 16 = .ok (.ireturn, 1) := by decide +kernel
theorem dL_wood_0 : decode cL_wood 0 = .ok (.aload_n 2, 1) := by decide +kernel
theorem dL_wood_1 : decode cL_wood 1 = .ok (.iconst 0, 1) := by decide +kernel
theorem dL_wood_2 : decode cL_wood 2 = .ok (.aload_n 0, 1) := by decide +kernel
theorem dL_wood_3 : decode cL_wood 3 = .ok (.iload_n 1, 1) := by decide +kernel
theorem dL_wood_4 : decode cL_wood 4 = .ok (.invokevirtual 34, 3) := by decide +kernel
theorem dL_wood_7 : decode cL_wood 7 = .ok (.i2l, 1) := by decide +kernel
theorem dL_wood_8 : decode cL_wood 8 = .ok (.lastore, 1) := by decide +kernel
theorem dL_wood_9 : decode cL_wood 9 = .ok (.goto 6, 3) := by decide +kernel
theorem dL_wood_12 : decode cL_wood 12 = .ok (.astore_n 3, 1) := by decide +kernel
theorem dL_wood_13 : decode cL_wood 13 = .ok (.iconst 1, 1) := by decide +kernel
theorem dL_wood_14 : decode cL_wood 14 = .ok (.ireturn, 1) := by decide +kernel
theorem dL_wood_15 : decode cL_wood 15 = .ok (.iconst 0, 1) := by decide +kernel
theorem dL_wood_16 : decode cL_wood 16 = .ok (.ireturn, 1) := by decide +kernel
theorem dL_day_0 : decode cL_day 0 = .ok (.aload_n 1, 1) := by decide +kernel
theorem dL_day_1 : decode cL_day 1 = .ok (.iconst 0, 1) := by decide +kernel
theorem dL_day_2 : decode cL_day 2 = .ok (.aload_n 0, 1) := by decide +kernel
theorem dL_day_3 : decode cL_day 3 = .ok (.invokevirtual 37, 3) := by decide +kernel
theorem dL_day_6 : decode cL_day 6 = .ok (.i2l, 1) := by decide +kernel
theorem dL_day_7 : decode cL_day 7 = .ok (.lastore, 1) := by decide +kernel
theorem dL_day_8 : decode cL_day 8 = .ok (.goto 6, 3) := by decide +kernel
theorem dL_day_11 : decode cL_day 11 = .ok (.astore_n 2, 1) := by decide +kernel
theorem dL_day_12 : decode cL_day 12 = .ok (.iconst 1, 1) := by decide +kernel
theorem dL_day_13 : decode cL_day 13 = .ok (.ireturn, 1) := by decide +kernel
theorem dL_day_14 : decode cL_day 14 = .ok (.iconst 0, 1) := by decide +kernel
theorem dL_day_15 : decode cL_day 15 = .ok (.ireturn, 1) := by decide +kernel
theorem dL_hours_0 : decode cL_hours 0 = .ok (.aload_n 2, 1) := by decide +kernel
theorem dL_hours_1 : decode cL_hours 1 = .ok (.iconst 0, 1) := by decide +kernel
theorem dL_hours_2 : decode cL_hours 2 = .ok (.aload_n 0, 1) := by decide +kernel
theorem dL_hours_3 : decode cL_hours 3 = .ok (.iload_n 1, 1) := by decide +kernel
theorem dL_hours_4 : decode cL_hours 4 = .ok (.invokevirtual 41, 3) := by decide +kernel
theorem dL_hours_7 : decode cL_hours 7 = .ok (.i2l, 1) := by decide +kernel
theorem dL_hours_8 : decode cL_hours 8 = .ok (.lastore, 1) := by decide +kernel
theorem dL_hours_9 : decode cL_hours 9 = .ok (.goto 6, 3) := by decide +kernel
theorem dL_hours_12 : decode cL_hours 12 = .ok (.astore_n 3, 1) := by decide +kernel
theorem dL_hours_13 : decode cL_hours 13 = .ok (.iconst 1, 1) := by decide +kernel
theorem dL_hours_14 : decode cL_hours 14 = .ok (.ireturn, 1) := by decide +kernel
theorem dL_hours_15 : decode cL_hours 15 = .ok (.iconst 0, 1) := by decide +kernel
theorem dL_hours_16 : decode cL_hours 16 = .ok (.ireturn, 1) := by decide +kernel
theorem dL_sell_0 : decode cL_sell 0 = .ok (.aload_n 2, 1) := by decide +kernel
theorem dL_sell_1 : decode cL_sell 1 = .ok (.iconst 0, 1) := by decide +kernel
theorem dL_sell_2 : decode cL_sell 2 = .ok (.aload_n 0, 1) := by decide +kernel
theorem dL_sell_3 : decode cL_sell 3 = .ok (.iload_n 1, 1) := by decide +kernel
theorem dL_sell_4 : decode cL_sell 4 = .ok (.invokevirtual 44, 3) := by decide +kernel
theorem dL_sell_7 : decode cL_sell 7 = .ok (.i2l, 1) := by decide +kernel
theorem dL_sell_8 : decode cL_sell 8 = .ok (.lastore, 1) := by decide +kernel
theorem dL_sell_9 : decode cL_sell 9 = .ok (.goto 6, 3) := by decide +kernel
theorem dL_sell_12 : decode cL_sell 12 = .ok (.astore_n 3, 1) := by decide +kernel
theorem dL_sell_13 : decode cL_sell 13 = .ok (.iconst 1, 1) := by decide +kernel
theorem dL_sell_14 : decode cL_sell 14 = .ok (.ireturn, 1) := by decide +kernel
theorem dL_sell_15 : decode cL_sell 15 = .ok (.iconst 0, 1) := by decide +kernel
theorem dL_sell_16 : decode cL_sell 16 = .ok (.ireturn, 1) := by decide +kernel
theorem dL_throwAway_0 : decode cL_throwAway 0 = .ok (.aload_n 2, 1) := by decide +kernel
theorem dL_throwAway_1 : decode cL_throwAway 1 = .ok (.iconst 0, 1) := by decide +kernel
theorem dL_throwAway_2 : decode cL_throwAway 2 = .ok (.aload_n 0, 1) := by decide +kernel
theorem dL_throwAway_3 : decode cL_throwAway 3 = .ok (.iload_n 1, 1) := by decide +kernel
theorem dL_throwAway_4 : decode cL_throwAway 4 = .ok (.invokevirtual 47, 3) := by decide +kernel
theorem dL_throwAway_7 : decode cL_throwAway 7 = .ok (.i2l, 1) := by decide +kernel
theorem dL_throwAway_8 : decode cL_throwAway 8 = .ok (.lastore, 1) := by decide +kernel
theorem dL_throwAway_9 : decode cL_throwAway 9 = .ok (.goto 6, 3) := by decide +kernel
theorem dL_throwAway_12 : decode cL_throwAway 12 = .ok (.astore_n 3, 1) := by decide +kernel
theorem dL_throwAway_13 : decode cL_throwAway 13 = .ok (.iconst 1, 1) := by decide +kernel
theorem dL_throwAway_14 : decode cL_throwAway 14 = .ok (.ireturn, 1) := by decide +kernel
theorem dL_throwAway_15 : decode cL_throwAway 15 = .ok (.iconst 0, 1) := by decide +kernel
theorem dL_throwAway_16 : decode cL_throwAway 16 = .ok (.ireturn, 1) := by decide +kernel
theorem dL_fishOf_0 : decode cL_fishOf 0 = .ok (.aload_n 3, 1) := by decide +kernel
theorem dL_fishOf_1 : decode cL_fishOf 1 = .ok (.iconst 0, 1) := by decide +kernel
theorem dL_fishOf_2 : decode cL_fishOf 2 = .ok (.aload_n 0, 1) := by decide +kernel
theorem dL_fishOf_3 : decode cL_fishOf 3 = .ok (.iload_n 1, 1) := by decide +kernel
theorem dL_fishOf_4 : decode cL_fishOf 4 = .ok (.iload_n 2, 1) := by decide +kernel
theorem dL_fishOf_5 : decode cL_fishOf 5 = .ok (.invokevirtual 50, 3) := by decide +kernel
theorem dL_fishOf_8 : decode cL_fishOf 8 = .ok (.i2l, 1) := by decide +kernel
theorem dL_fishOf_9 : decode cL_fishOf 9 = .ok (.lastore, 1) := by decide +kernel
theorem dL_fishOf_10 : decode cL_fishOf 10 = .ok (.goto 11, 3) := by decide +kernel
theorem dL_fishOf_13 : decode cL_fishOf 13 = .ok (.astore 4, 2) := by decide +kernel
theorem dL_fishOf_15 : decode cL_fishOf 15 = .ok (.iconst 1, 1) := by decide +kernel
theorem dL_fishOf_16 : decode cL_fishOf 16 = .ok (.ireturn, 1) := by decide +kernel
theorem dL_fishOf_17 : decode cL_fishOf 17 = .ok (.astore 4, 2) := by decide +kernel
theorem dL_fishOf_19 : decode cL_fishOf 19 = .ok (.iconst 2, 1) := by decide +kernel
theorem dL_fishOf_20 : decode cL_fishOf 20 = .ok (.ireturn, 1) := by decide +kernel
theorem dL_fishOf_21 : decode cL_fishOf 21 = .ok (.iconst 0, 1) := by decide +kernel
theorem dL_fishOf_22 : decode cL_fishOf 22 = .ok (.ireturn, 1) := by decide +kernel
theorem dL_sideOf_0 : decode cL_sideOf 0 = .ok (.aload 4, 2) := by decide +kernel
theorem dL_sideOf_2 : decode cL_sideOf 2 = .ok (.iconst 0, 1) := by decide +kernel
theorem dL_sideOf_3 : decode cL_sideOf 3 = .ok (.aload_n 0, 1) := by decide +kernel
theorem dL_sideOf_4 : decode cL_sideOf 4 = .ok (.iload_n 1, 1) := by decide +kernel
theorem dL_sideOf_5 : decode cL_sideOf 5 = .ok (.iload_n 2, 1) := by decide +kernel
theorem dL_sideOf_6 : decode cL_sideOf 6 = .ok (.iload_n 3, 1) := by decide +kernel
theorem dL_sideOf_7 : decode cL_sideOf 7 = .ok (.invokevirtual 58, 3) := by decide +kernel
theorem dL_sideOf_10 : decode cL_sideOf 10 = .ok (.i2l, 1) := by decide +kernel
theorem dL_sideOf_11 : decode cL_sideOf 11 = .ok (.lastore, 1) := by decide +kernel
theorem dL_sideOf_12 : decode cL_sideOf 12 = .ok (.goto 11, 3) := by decide +kernel
theorem dL_sideOf_15 : decode cL_sideOf 15 = .ok (.astore 5, 2) := by decide +kernel
theorem dL_sideOf_17 : decode cL_sideOf 17 = .ok (.iconst 1, 1) := by decide +kernel
theorem dL_sideOf_18 : decode cL_sideOf 18 = .ok (.ireturn, 1) := by decide +kernel
theorem dL_sideOf_19 : decode cL_sideOf 19 = .ok (.astore 5, 2) := by decide +kernel
theorem dL_sideOf_21 : decode cL_sideOf 21 = .ok (.iconst 2, 1) := by decide +kernel
theorem dL_sideOf_22 : decode cL_sideOf 22 = .ok (.ireturn, 1) := by decide +kernel
theorem dL_sideOf_23 : decode cL_sideOf 23 = .ok (.iconst 0, 1) := by decide +kernel
theorem dL_sideOf_24 : decode cL_sideOf 24 = .ok (.ireturn, 1) := by decide +kernel
theorem dL_at_0 : decode cL_at 0 = .ok (.aload_n 3, 1) := by decide +kernel
theorem dL_at_1 : decode cL_at 1 = .ok (.iconst 0, 1) := by decide +kernel
theorem dL_at_2 : decode cL_at 2 = .ok (.aload_n 0, 1) := by decide +kernel
theorem dL_at_3 : decode cL_at 3 = .ok (.iload_n 1, 1) := by decide +kernel
theorem dL_at_4 : decode cL_at 4 = .ok (.iload_n 2, 1) := by decide +kernel
theorem dL_at_5 : decode cL_at 5 = .ok (.invokevirtual 62, 3) := by decide +kernel
theorem dL_at_8 : decode cL_at 8 = .ok (.i2l, 1) := by decide +kernel
theorem dL_at_9 : decode cL_at 9 = .ok (.lastore, 1) := by decide +kernel
theorem dL_at_10 : decode cL_at 10 = .ok (.goto 11, 3) := by decide +kernel
theorem dL_at_13 : decode cL_at 13 = .ok (.astore 4, 2) := by decide +kernel
theorem dL_at_15 : decode cL_at 15 = .ok (.iconst 1, 1) := by decide +kernel
theorem dL_at_16 : decode cL_at 16 = .ok (.ireturn, 1) := by decide +kernel
theorem dL_at_17 : decode cL_at 17 = .ok (.astore 4, 2) := by decide +kernel
theorem dL_at_19 : decode cL_at 19 = .ok (.iconst 2, 1) := by decide +kernel
theorem dL_at_20 : decode cL_at 20 = .ok (.ireturn, 1) := by decide +kernel
theorem dL_at_21 : decode cL_at 21 = .ok (.iconst 0, 1) := by decide +kernel
theorem dL_at_22 : decode cL_at 22 = .ok (.ireturn, 1) := by decide +kernel
theorem dL_heat_0 : decode cL_heat 0 = .ok (.aload_n 2, 1) := by decide +kernel
theorem dL_heat_1 : decode cL_heat 1 = .ok (.iconst 0, 1) := by decide +kernel
theorem dL_heat_2 : decode cL_heat 2 = .ok (.aload_n 0, 1) := by decide +kernel
theorem dL_heat_3 : decode cL_heat 3 = .ok (.iload_n 1, 1) := by decide +kernel
theorem dL_heat_4 : decode cL_heat 4 = .ok (.invokevirtual 67, 3) := by decide +kernel
theorem dL_heat_7 : decode cL_heat 7 = .ok (.i2l, 1) := by decide +kernel
theorem dL_heat_8 : decode cL_heat 8 = .ok (.lastore, 1) := by decide +kernel
theorem dL_heat_9 : decode cL_heat 9 = .ok (.goto 6, 3) := by decide +kernel
theorem dL_heat_12 : decode cL_heat 12 = .ok (.astore_n 3, 1) := by decide +kernel
theorem dL_heat_13 : decode cL_heat 13 = .ok (.iconst 1, 1) := by decide +kernel
theorem dL_heat_14 : decode cL_heat 14 = .ok (.ireturn, 1) := by decide +kernel
theorem dL_heat_15 : decode cL_heat 15 = .ok (.iconst 0, 1) := by decide +kernel
theorem dL_heat_16 : decode cL_heat 16 = .ok (.ireturn, 1) := by decide +kernel
theorem dL_nearest_0 : decode cL_nearest 0 = .ok (.aload_n 2, 1) := by decide +kernel
theorem dL_nearest_1 : decode cL_nearest 1 = .ok (.iconst 0, 1) := by decide +kernel
theorem dL_nearest_2 : decode cL_nearest 2 = .ok (.aload_n 0, 1) := by decide +kernel
theorem dL_nearest_3 : decode cL_nearest 3 = .ok (.iload_n 1, 1) := by decide +kernel
theorem dL_nearest_4 : decode cL_nearest 4 = .ok (.invokevirtual 70, 3) := by decide +kernel
theorem dL_nearest_7 : decode cL_nearest 7 = .ok (.i2l, 1) := by decide +kernel
theorem dL_nearest_8 : decode cL_nearest 8 = .ok (.lastore, 1) := by decide +kernel
theorem dL_nearest_9 : decode cL_nearest 9 = .ok (.goto 9, 3) := by decide +kernel
theorem dL_nearest_12 : decode cL_nearest 12 = .ok (.astore_n 3, 1) := by decide +kernel
theorem dL_nearest_13 : decode cL_nearest 13 = .ok (.iconst 1, 1) := by decide +kernel
theorem dL_nearest_14 : decode cL_nearest 14 = .ok (.ireturn, 1) := by decide +kernel
theorem dL_nearest_15 : decode cL_nearest 15 = .ok (.astore_n 3, 1) := by decide +kernel
theorem dL_nearest_16 : decode cL_nearest 16 = .ok (.iconst 2, 1) := by decide +kernel
theorem dL_nearest_17 : decode cL_nearest 17 = .ok (.ireturn, 1) := by decide +kernel
theorem dL_nearest_18 : decode cL_nearest 18 = .ok (.iconst 0, 1) := by decide +kernel
theorem dL_nearest_19 : decode cL_nearest 19 = .ok (.ireturn, 1) := by decide +kernel
theorem dL_isCrowded_0 : decode cL_isCrowded 0 = .ok (.aload_n 2, 1) := by decide +kernel
theorem dL_isCrowded_1 : decode cL_isCrowded 1 = .ok (.iconst 0, 1) := by decide +kernel
theorem dL_isCrowded_2 : decode cL_isCrowded 2 = .ok (.aload_n 0, 1) := by decide +kernel
theorem dL_isCrowded_3 : decode cL_isCrowded 3 = .ok (.iload_n 1, 1) := by decide +kernel
theorem dL_isCrowded_4 : decode cL_isCrowded 4 = .ok (.invokevirtual 73, 3) := by decide +kernel
theorem dL_isCrowded_7 : decode cL_isCrowded 7 = .ok (.ifCond .eq 7, 3) := by decide +kernel
theorem dL_isCrowded_10 : decode cL_isCrowded 10 = .ok (.lconst 1, 1) := by decide +kernel
theorem dL_isCrowded_11 : decode cL_isCrowded 11 = .ok (.goto 4, 3) := by decide +kernel
theorem dL_isCrowded_14 : decode cL_isCrowded 14 = .ok (.lconst 0, 1) := by decide +kernel
theorem dL_isCrowded_15 : decode cL_isCrowded 15 = .ok (.lastore, 1) := by decide +kernel
theorem dL_isCrowded_16 : decode cL_isCrowded 16 = .ok (.goto 6, 3) := by decide +kernel
theorem dL_isCrowded_19 : decode cL_isCrowded 19 = .ok (.astore_n 3, 1) := by decide +kernel
theorem dL_isCrowded_20 : decode cL_isCrowded 20 = .ok (.iconst 1, 1) := by decide +kernel
theorem dL_isCrowded_21 : decode cL_isCrowded 21 = .ok (.ireturn, 1) := by decide +kernel
theorem dL_isCrowded_22 : decode cL_isCrowded 22 = .ok (.iconst 0, 1) := by decide +kernel
theorem dL_isCrowded_23 : decode cL_isCrowded 23 = .ok (.ireturn, 1) := by decide +kernel
theorem dL_isDone_0 : decode cL_isDone 0 = .ok (.aload_n 2, 1) := by decide +kernel
theorem dL_isDone_1 : decode cL_isDone 1 = .ok (.iconst 0, 1) := by decide +kernel
theorem dL_isDone_2 : decode cL_isDone 2 = .ok (.aload_n 0, 1) := by decide +kernel
theorem dL_isDone_3 : decode cL_isDone 3 = .ok (.iload_n 1, 1) := by decide +kernel
theorem dL_isDone_4 : decode cL_isDone 4 = .ok (.invokevirtual 77, 3) := by decide +kernel
theorem dL_isDone_7 : decode cL_isDone 7 = .ok (.ifCond .eq 7, 3) := by decide +kernel
theorem dL_isDone_10 : decode cL_isDone 10 = .ok (.lconst 1, 1) := by decide +kernel
theorem dL_isDone_11 : decode cL_isDone 11 = .ok (.goto 4, 3) := by decide +kernel
theorem dL_isDone_14 : decode cL_isDone 14 = .ok (.lconst 0, 1) := by decide +kernel
theorem dL_isDone_15 : decode cL_isDone 15 = .ok (.lastore, 1) := by decide +kernel
theorem dL_isDone_16 : decode cL_isDone 16 = .ok (.goto 6, 3) := by decide +kernel
theorem dL_isDone_19 : decode cL_isDone 19 = .ok (.astore_n 3, 1) := by decide +kernel
theorem dL_isDone_20 : decode cL_isDone 20 = .ok (.iconst 1, 1) := by decide +kernel
theorem dL_isDone_21 : decode cL_isDone 21 = .ok (.ireturn, 1) := by decide +kernel
theorem dL_isDone_22 : decode cL_isDone 22 = .ok (.iconst 0, 1) := by decide +kernel
theorem dL_isDone_23 : decode cL_isDone 23 = .ok (.ireturn, 1) := by decide +kernel
theorem dL_wouldChar_0 : decode cL_wouldChar 0 = .ok (.aload_n 3, 1) := by decide +kernel
theorem dL_wouldChar_1 : decode cL_wouldChar 1 = .ok (.iconst 0, 1) := by decide +kernel
theorem dL_wouldChar_2 : decode cL_wouldChar 2 = .ok (.aload_n 0, 1) := by decide +kernel
theorem dL_wouldChar_3 : decode cL_wouldChar 3 = .ok (.iload_n 1, 1) := by decide +kernel
theorem dL_wouldChar_4 : decode cL_wouldChar 4 = .ok (.iload_n 2, 1) := by decide +kernel
theorem dL_wouldChar_5 : decode cL_wouldChar 5 = .ok (.invokevirtual 80, 3) := by decide +kernel
theorem dL_wouldChar_8 : decode cL_wouldChar 8 = .ok (.i2l, 1) := by decide +kernel
theorem dL_wouldChar_9 : decode cL_wouldChar 9 = .ok (.lastore, 1) := by decide +kernel
theorem dL_wouldChar_10 : decode cL_wouldChar 10 = .ok (.goto 11, 3) := by decide +kernel
theorem dL_wouldChar_13 : decode cL_wouldChar 13 = .ok (.astore 4, 2) := by decide +kernel
theorem dL_wouldChar_15 : decode cL_wouldChar 15 = .ok (.iconst 1, 1) := by decide +kernel
theorem dL_wouldChar_16 : decode cL_wouldChar 16 = .ok (.ireturn, 1) := by decide +kernel
theorem dL_wouldChar_17 : decode cL_wouldChar 17 = .ok (.astore 4, 2) := by decide +kernel
theorem dL_wouldChar_19 : decode cL_wouldChar 19 = .ok (.iconst 2, 1) := by decide +kernel
theorem dL_wouldChar_20 : decode cL_wouldChar 20 = .ok (.ireturn, 1) := by decide +kernel
theorem dL_wouldChar_21 : decode cL_wouldChar 21 = .ok (.iconst 0, 1) := by decide +kernel
theorem dL_wouldChar_22 : decode cL_wouldChar 22 = .ok (.ireturn, 1) := by decide +kernel
theorem dL_wouldCharAgain_0 : decode cL_wouldCharAgain 0 = .ok (.aload_n 3, 1) := by decide +kernel
theorem dL_wouldCharAgain_1 : decode cL_wouldCharAgain 1 = .ok (.iconst 0, 1) := by decide +kernel
theorem dL_wouldCharAgain_2 : decode cL_wouldCharAgain 2 = .ok (.aload_n 0, 1) := by decide +kernel
theorem dL_wouldCharAgain_3 : decode cL_wouldCharAgain 3 = .ok (.iload_n 1, 1) := by decide +kernel
theorem dL_wouldCharAgain_4 : decode cL_wouldCharAgain 4 = .ok (.iload_n 2, 1) := by decide +kernel
theorem dL_wouldCharAgain_5 : decode cL_wouldCharAgain 5 = .ok (.invokevirtual 83, 3) := by decide +kernel
theorem dL_wouldCharAgain_8 : decode cL_wouldCharAgain 8 = .ok (.i2l, 1) := by decide +kernel
theorem dL_wouldCharAgain_9 : decode cL_wouldCharAgain 9 = .ok (.lastore, 1) := by decide +kernel
theorem dL_wouldCharAgain_10 : decode cL_wouldCharAgain 10 = .ok (.goto 11, 3) := by decide +kernel
theorem dL_wouldCharAgain_13 : decode cL_wouldCharAgain 13 = .ok (.astore 4, 2) := by decide +kernel
theorem dL_wouldCharAgain_15 : decode cL_wouldCharAgain 15 = .ok (.iconst 1, 1) := by decide +kernel
theorem dL_wouldCharAgain_16 : decode cL_wouldCharAgain 16 = .ok (.ireturn, 1) := by decide +kernel
theorem dL_wouldCharAgain_17 : decode cL_wouldCharAgain 17 = .ok (.astore 4, 2) := by decide +kernel
theorem dL_wouldCharAgain_19 : decode cL_wouldCharAgain 19 = .ok (.iconst 2, 1) := by decide +kernel
theorem dL_wouldCharAgain_20 : decode cL_wouldCharAgain 20 = .ok (.ireturn, 1) := by decide +kernel
theorem dL_wouldCharAgain_21 : decode cL_wouldCharAgain 21 = .ok (.iconst 0, 1) := by decide +kernel
theorem dL_wouldCharAgain_22 : decode cL_wouldCharAgain 22 = .ok (.ireturn, 1) := by decide +kernel
theorem dL_burnsIn_0 : decode cL_burnsIn 0 = .ok (.aload_n 2, 1) := by decide +kernel
theorem dL_burnsIn_1 : decode cL_burnsIn 1 = .ok (.iconst 0, 1) := by decide +kernel
theorem dL_burnsIn_2 : decode cL_burnsIn 2 = .ok (.aload_n 0, 1) := by decide +kernel
theorem dL_burnsIn_3 : decode cL_burnsIn 3 = .ok (.iload_n 1, 1) := by decide +kernel
theorem dL_burnsIn_4 : decode cL_burnsIn 4 = .ok (.invokevirtual 86, 3) := by decide +kernel
theorem dL_burnsIn_7 : decode cL_burnsIn 7 = .ok (.i2l, 1) := by decide +kernel
theorem dL_burnsIn_8 : decode cL_burnsIn 8 = .ok (.lastore, 1) := by decide +kernel
theorem dL_burnsIn_9 : decode cL_burnsIn 9 = .ok (.goto 9, 3) := by decide +kernel
theorem dL_burnsIn_12 : decode cL_burnsIn 12 = .ok (.astore_n 3, 1) := by decide +kernel
theorem dL_burnsIn_13 : decode cL_burnsIn 13 = .ok (.iconst 1, 1) := by decide +kernel
theorem dL_burnsIn_14 : decode cL_burnsIn 14 = .ok (.ireturn, 1) := by decide +kernel
theorem dL_burnsIn_15 : decode cL_burnsIn 15 = .ok (.astore_n 3, 1) := by decide +kernel
theorem dL_burnsIn_16 : decode cL_burnsIn 16 = .ok (.iconst 2, 1) := by decide +kernel
theorem dL_burnsIn_17 : decode cL_burnsIn 17 = .ok (.ireturn, 1) := by decide +kernel
theorem dL_burnsIn_18 : decode cL_burnsIn 18 = .ok (.iconst 0, 1) := by decide +kernel
theorem dL_burnsIn_19 : decode cL_burnsIn 19 = .ok (.ireturn, 1) := by decide +kernel
theorem dL_doneIn_0 : decode cL_doneIn 0 = .ok (.aload_n 2, 1) := by decide +kernel
theorem dL_doneIn_1 : decode cL_doneIn 1 = .ok (.iconst 0, 1) := by decide +kernel
theorem dL_doneIn_2 : decode cL_doneIn 2 = .ok (.aload_n 0, 1) := by decide +kernel
theorem dL_doneIn_3 : decode cL_doneIn 3 = .ok (.iload_n 1, 1) := by decide +kernel
theorem dL_doneIn_4 : decode cL_doneIn 4 = .ok (.invokevirtual 89, 3) := by decide +kernel
theorem dL_doneIn_7 : decode cL_doneIn 7 = .ok (.i2l, 1) := by decide +kernel
theorem dL_doneIn_8 : decode cL_doneIn 8 = .ok (.lastore, 1) := by decide +kernel
theorem dL_doneIn_9 : decode cL_doneIn 9 = .ok (.goto 9, 3) := by decide +kernel
theorem dL_doneIn_12 : decode cL_doneIn 12 = .ok (.astore_n 3, 1) := by decide +kernel
theorem dL_doneIn_13 : decode cL_doneIn 13 = .ok (.iconst 1, 1) := by decide +kernel
theorem dL_doneIn_14 : decode cL_doneIn 14 = .ok (.ireturn, 1) := by decide +kernel
theorem dL_doneIn_15 : decode cL_doneIn 15 = .ok (.astore_n 3, 1) := by decide +kernel
theorem dL_doneIn_16 : decode cL_doneIn 16 = .ok (.iconst 2, 1) := by decide +kernel
theorem dL_doneIn_17 : decode cL_doneIn 17 = .ok (.ireturn, 1) := by decide +kernel
theorem dL_doneIn_18 : decode cL_doneIn 18 = .ok (.iconst 0, 1) := by decide +kernel
theorem dL_doneIn_19 : decode cL_doneIn 19 = .ok (.ireturn, 1) := by decide +kernel
theorem dL_hottest_0 : decode cL_hottest 0 = .ok (.aload_n 1, 1) := by decide +kernel
theorem dL_hottest_1 : decode cL_hottest 1 = .ok (.iconst 0, 1) := by decide +kernel
theorem dL_hottest_2 : decode cL_hottest 2 = .ok (.aload_n 0, 1) := by decide +kernel
theorem dL_hottest_3 : decode cL_hottest 3 = .ok (.invokevirtual 92, 3) := by decide +kernel
theorem dL_hottest_6 : decode cL_hottest 6 = .ok (.i2l, 1) := by decide +kernel
theorem dL_hottest_7 : decode cL_hottest 7 = .ok (.lastore, 1) := by decide +kernel
theorem dL_hottest_8 : decode cL_hottest 8 = .ok (.goto 6, 3) := by decide +kernel
theorem dL_hottest_11 : decode cL_hottest 11 = .ok (.astore_n 2, 1) := by decide +kernel
theorem dL_hottest_12 : decode cL_hottest 12 = .ok (.iconst 1, 1) := by decide +kernel
theorem dL_hottest_13 : decode cL_hottest 13 = .ok (.ireturn, 1) := by decide +kernel
theorem dL_hottest_14 : decode cL_hottest 14 = .ok (.iconst 0, 1) := by decide +kernel
theorem dL_hottest_15 : decode cL_hottest 15 = .ok (.ireturn, 1) := by decide +kernel
theorem dL_bestHook_0 : decode cL_bestHook 0 = .ok (.aload_n 3, 1) := by decide +kernel
theorem dL_bestHook_1 : decode cL_bestHook 1 = .ok (.iconst 0, 1) := by decide +kernel
theorem dL_bestHook_2 : decode cL_bestHook 2 = .ok (.aload_n 0, 1) := by decide +kernel
theorem dL_bestHook_3 : decode cL_bestHook 3 = .ok (.iload_n 1, 1) := by decide +kernel
theorem dL_bestHook_4 : decode cL_bestHook 4 = .ok (.iload_n 2, 1) := by decide +kernel
theorem dL_bestHook_5 : decode cL_bestHook 5 = .ok (.invokevirtual 95, 3) := by decide +kernel
theorem dL_bestHook_8 : decode cL_bestHook 8 = .ok (.i2l, 1) := by decide +kernel
theorem dL_bestHook_9 : decode cL_bestHook 9 = .ok (.lastore, 1) := by decide +kernel
theorem dL_bestHook_10 : decode cL_bestHook 10 = .ok (.goto 11, 3) := by decide +kernel
theorem dL_bestHook_13 : decode cL_bestHook 13 = .ok (.astore 4, 2) := by decide +kernel
theorem dL_bestHook_15 : decode cL_bestHook 15 = .ok (.iconst 1, 1) := by decide +kernel
theorem dL_bestHook_16 : decode cL_bestHook 16 = .ok (.ireturn, 1) := by decide +kernel
theorem dL_bestHook_17 : decode cL_bestHook 17 = .ok (.astore 4, 2) := by decide +kernel
theorem dL_bestHook_19 : decode cL_bestHook 19 = .ok (.iconst 2, 1) := by decide +kernel
theorem dL_bestHook_20 : decode cL_bestHook 20 = .ok (.ireturn, 1) := by decide +kernel
theorem dL_bestHook_21 : decode cL_bestHook 21 = .ok (.iconst 0, 1) := by decide +kernel
theorem dL_bestHook_22 : decode cL_bestHook 22 = .ok (.ireturn, 1) := by decide +kernel
theorem dL_ranked_0 : decode cL_ranked 0 = .ok (.aload_n 3, 1) := by decide +kernel
theorem dL_ranked_1 : decode cL_ranked 1 = .ok (.iconst 0, 1) := by decide +kernel
theorem dL_ranked_2 : decode cL_ranked 2 = .ok (.aload_n 0, 1) := by decide +kernel
theorem dL_ranked_3 : decode cL_ranked 3 = .ok (.iload_n 1, 1) := by decide +kernel
theorem dL_ranked_4 : decode cL_ranked 4 = .ok (.iload_n 2, 1) := by decide +kernel
theorem dL_ranked_5 : decode cL_ranked 5 = .ok (.invokevirtual 98, 3) := by decide +kernel
theorem dL_ranked_8 : decode cL_ranked 8 = .ok (.i2l, 1) := by decide +kernel
theorem dL_ranked_9 : decode cL_ranked 9 = .ok (.lastore, 1) := by decide +kernel
theorem dL_ranked_10 : decode cL_ranked 10 = .ok (.goto 11, 3) := by decide +kernel
theorem dL_ranked_13 : decode cL_ranked 13 = .ok (.astore 4, 2) := by decide +kernel
theorem dL_ranked_15 : decode cL_ranked 15 = .ok (.iconst 1, 1) := by decide +kernel
theorem dL_ranked_16 : decode cL_ranked 16 = .ok (.ireturn, 1) := by decide +kernel
theorem dL_ranked_17 : decode cL_ranked 17 = .ok (.astore 4, 2) := by decide +kernel
theorem dL_ranked_19 : decode cL_ranked 19 = .ok (.iconst 2, 1) := by decide +kernel
theorem dL_ranked_20 : decode cL_ranked 20 = .ok (.ireturn, 1) := by decide +kernel
theorem dL_ranked_21 : decode cL_ranked 21 = .ok (.iconst 0, 1) := by decide +kernel
theorem dL_ranked_22 : decode cL_ranked 22 = .ok (.ireturn, 1) := by decide +kernel
theorem dL_append_0 : decode cL_append 0 = .ok (.aload_n 2, 1) := by decide +kernel
theorem dL_append_1 : decode cL_append 1 = .ok (.iconst 0, 1) := by decide +kernel
theorem dL_append_2 : decode cL_append 2 = .ok (.aload_n 0, 1) := by decide +kernel
theorem dL_append_3 : decode cL_append 3 = .ok (.iload_n 1, 1) := by decide +kernel
theorem dL_append_4 : decode cL_append 4 = .ok (.invokevirtual 101, 3) := by decide +kernel
theorem dL_append_7 : decode cL_append 7 = .ok (.i2l, 1) := by decide +kernel
theorem dL_append_8 : decode cL_append 8 = .ok (.lastore, 1) := by decide +kernel
theorem dL_append_9 : decode cL_append 9 = .ok (.goto 6, 3) := by decide +kernel
theorem dL_append_12 : decode cL_append 12 = .ok (.astore_n 3, 1) := by decide +kernel
theorem dL_append_13 : decode cL_append 13 = .ok (.iconst 1, 1) := by decide +kernel
theorem dL_append_14 : decode cL_append 14 = .ok (.ireturn, 1) := by decide +kernel
theorem dL_append_15 : decode cL_append 15 = .ok (.iconst 0, 1) := by decide +kernel
theorem dL_append_16 : decode cL_append 16 = .ok (.ireturn, 1) := by decide +kernel
theorem dL_commands_0 : decode cL_commands 0 = .ok (.aload_n 1, 1) := by decide +kernel
theorem dL_commands_1 : decode cL_commands 1 = .ok (.iconst 0, 1) := by decide +kernel
theorem dL_commands_2 : decode cL_commands 2 = .ok (.aload_n 0, 1) := by decide +kernel
theorem dL_commands_3 : decode cL_commands 3 = .ok (.invokevirtual 107, 3) := by decide +kernel
theorem dL_commands_6 : decode cL_commands 6 = .ok (.i2l, 1) := by decide +kernel
theorem dL_commands_7 : decode cL_commands 7 = .ok (.lastore, 1) := by decide +kernel
theorem dL_commands_8 : decode cL_commands 8 = .ok (.goto 9, 3) := by decide +kernel
theorem dL_commands_11 : decode cL_commands 11 = .ok (.astore_n 2, 1) := by decide +kernel
theorem dL_commands_12 : decode cL_commands 12 = .ok (.iconst 1, 1) := by decide +kernel
theorem dL_commands_13 : decode cL_commands 13 = .ok (.ireturn, 1) := by decide +kernel
theorem dL_commands_14 : decode cL_commands 14 = .ok (.astore_n 2, 1) := by decide +kernel
theorem dL_commands_15 : decode cL_commands 15 = .ok (.iconst 2, 1) := by decide +kernel
theorem dL_commands_16 : decode cL_commands 16 = .ok (.ireturn, 1) := by decide +kernel
theorem dL_commands_17 : decode cL_commands 17 = .ok (.iconst 0, 1) := by decide +kernel
theorem dL_commands_18 : decode cL_commands 18 = .ok (.ireturn, 1) := by decide +kernel
theorem dL_reason_0 : decode cL_reason 0 = .ok (.aload_n 2, 1) := by decide +kernel
theorem dL_reason_1 : decode cL_reason 1 = .ok (.iconst 0, 1) := by decide +kernel
theorem dL_reason_2 : decode cL_reason 2 = .ok (.aload_n 0, 1) := by decide +kernel
theorem dL_reason_3 : decode cL_reason 3 = .ok (.iload_n 1, 1) := by decide +kernel
theorem dL_reason_4 : decode cL_reason 4 = .ok (.invokevirtual 110, 3) := by decide +kernel
theorem dL_reason_7 : decode cL_reason 7 = .ok (.i2l, 1) := by decide +kernel
theorem dL_reason_8 : decode cL_reason 8 = .ok (.lastore, 1) := by decide +kernel
theorem dL_reason_9 : decode cL_reason 9 = .ok (.goto 9, 3) := by decide +kernel
theorem dL_reason_12 : decode cL_reason 12 = .ok (.astore_n 3, 1) := by decide +kernel
theorem dL_reason_13 : decode cL_reason 13 = .ok (.iconst 1, 1) := by decide +kernel
theorem dL_reason_14 : decode cL_reason 14 = .ok (.ireturn, 1) := by decide +kernel
theorem dL_reason_15 : decode cL_reason 15 = .ok (.astore_n 3, 1) := by decide +kernel
theorem dL_reason_16 : decode cL_reason 16 = .ok (.iconst 2, 1) := by decide +kernel
theorem dL_reason_17 : decode cL_reason 17 = .ok (.ireturn, 1) := by decide +kernel
theorem dL_reason_18 : decode cL_reason 18 = .ok (.iconst 0, 1) := by decide +kernel
theorem dL_reason_19 : decode cL_reason 19 = .ok (.ireturn, 1) := by decide +kernel
theorem dL_rack_0 : decode cL_rack 0 = .ok (.aload_n 2, 1) := by decide +kernel
theorem dL_rack_1 : decode cL_rack 1 = .ok (.iconst 0, 1) := by decide +kernel
theorem dL_rack_2 : decode cL_rack 2 = .ok (.aload_n 0, 1) := by decide +kernel
theorem dL_rack_3 : decode cL_rack 3 = .ok (.iload_n 1, 1) := by decide +kernel
theorem dL_rack_4 : decode cL_rack 4 = .ok (.invokevirtual 113, 3) := by decide +kernel
theorem dL_rack_7 : decode cL_rack 7 = .ok (.i2l, 1) := by decide +kernel
theorem dL_rack_8 : decode cL_rack 8 = .ok (.lastore, 1) := by decide +kernel
theorem dL_rack_9 : decode cL_rack 9 = .ok (.goto 6, 3) := by decide +kernel
theorem dL_rack_12 : decode cL_rack 12 = .ok (.astore_n 3, 1) := by decide +kernel
theorem dL_rack_13 : decode cL_rack 13 = .ok (.iconst 1, 1) := by decide +kernel
theorem dL_rack_14 : decode cL_rack 14 = .ok (.ireturn, 1) := by decide +kernel
theorem dL_rack_15 : decode cL_rack 15 = .ok (.iconst 0, 1) := by decide +kernel
theorem dL_rack_16 : decode cL_rack 16 = .ok (.ireturn, 1) := by decide +kernel
theorem dL_line_0 : decode cL_line 0 = .ok (.aload_n 2, 1) := by decide +kernel
theorem dL_line_1 : decode cL_line 1 = .ok (.iconst 0, 1) := by decide +kernel
theorem dL_line_2 : decode cL_line 2 = .ok (.aload_n 0, 1) := by decide +kernel
theorem dL_line_3 : decode cL_line 3 = .ok (.iload_n 1, 1) := by decide +kernel
theorem dL_line_4 : decode cL_line 4 = .ok (.invokevirtual 116, 3) := by decide +kernel
theorem dL_line_7 : decode cL_line 7 = .ok (.i2l, 1) := by decide +kernel
theorem dL_line_8 : decode cL_line 8 = .ok (.lastore, 1) := by decide +kernel
theorem dL_line_9 : decode cL_line 9 = .ok (.goto 6, 3) := by decide +kernel
theorem dL_line_12 : decode cL_line 12 = .ok (.astore_n 3, 1) := by decide +kernel
theorem dL_line_13 : decode cL_line 13 = .ok (.iconst 1, 1) := by decide +kernel
theorem dL_line_14 : decode cL_line 14 = .ok (.ireturn, 1) := by decide +kernel
theorem dL_line_15 : decode cL_line 15 = .ok (.iconst 0, 1) := by decide +kernel
theorem dL_line_16 : decode cL_line 16 = .ok (.ireturn, 1) := by decide +kernel
theorem dL_character_0 : decode cL_character 0 = .ok (.aload_n 2, 1) := by decide +kernel
theorem dL_character_1 : decode cL_character 1 = .ok (.iconst 0, 1) := by decide +kernel
theorem dL_character_2 : decode cL_character 2 = .ok (.aload_n 0, 1) := by decide +kernel
theorem dL_character_3 : decode cL_character 3 = .ok (.iload_n 1, 1) := by decide +kernel
theorem dL_character_4 : decode cL_character 4 = .ok (.invokevirtual 119, 3) := by decide +kernel
theorem dL_character_7 : decode cL_character 7 = .ok (.i2l, 1) := by decide +kernel
theorem dL_character_8 : decode cL_character 8 = .ok (.lastore, 1) := by decide +kernel
theorem dL_character_9 : decode cL_character 9 = .ok (.goto 6, 3) := by decide +kernel
theorem dL_character_12 : decode cL_character 12 = .ok (.astore_n 3, 1) := by decide +kernel
theorem dL_character_13 : decode cL_character 13 = .ok (.iconst 1, 1) := by decide +kernel
theorem dL_character_14 : decode cL_character 14 = .ok (.ireturn, 1) := by decide +kernel
theorem dL_character_15 : decode cL_character 15 = .ok (.iconst 0, 1) := by decide +kernel
theorem dL_character_16 : decode cL_character 16 = .ok (.ireturn, 1) := by decide +kernel
theorem dL_meanSmoke_0 : decode cL_meanSmoke 0 = .ok (.aload_n 1, 1) := by decide +kernel
theorem dL_meanSmoke_1 : decode cL_meanSmoke 1 = .ok (.iconst 0, 1) := by decide +kernel
theorem dL_meanSmoke_2 : decode cL_meanSmoke 2 = .ok (.aload_n 0, 1) := by decide +kernel
theorem dL_meanSmoke_3 : decode cL_meanSmoke 3 = .ok (.invokevirtual 123, 3) := by decide +kernel
theorem dL_meanSmoke_6 : decode cL_meanSmoke 6 = .ok (.i2l, 1) := by decide +kernel
theorem dL_meanSmoke_7 : decode cL_meanSmoke 7 = .ok (.lastore, 1) := by decide +kernel
theorem dL_meanSmoke_8 : decode cL_meanSmoke 8 = .ok (.goto 6, 3) := by decide +kernel
theorem dL_meanSmoke_11 : decode cL_meanSmoke 11 = .ok (.astore_n 2, 1) := by decide +kernel
theorem dL_meanSmoke_12 : decode cL_meanSmoke 12 = .ok (.iconst 1, 1) := by decide +kernel
theorem dL_meanSmoke_13 : decode cL_meanSmoke 13 = .ok (.ireturn, 1) := by decide +kernel
theorem dL_meanSmoke_14 : decode cL_meanSmoke 14 = .ok (.iconst 0, 1) := by decide +kernel
theorem dL_meanSmoke_15 : decode cL_meanSmoke 15 = .ok (.ireturn, 1) := by decide +kernel
theorem dL_burntShare_0 : decode cL_burntShare 0 = .ok (.aload_n 1, 1) := by decide +kernel
theorem dL_burntShare_1 : decode cL_burntShare 1 = .ok (.iconst 0, 1) := by decide +kernel
theorem dL_burntShare_2 : decode cL_burntShare 2 = .ok (.aload_n 0, 1) := by decide +kernel
theorem dL_burntShare_3 : decode cL_burntShare 3 = .ok (.invokevirtual 128, 3) := by decide +kernel
theorem dL_burntShare_6 : decode cL_burntShare 6 = .ok (.dastore, 1) := by decide +kernel
theorem dL_burntShare_7 : decode cL_burntShare 7 = .ok (.goto 6, 3) := by decide +kernel
theorem dL_burntShare_10 : decode cL_burntShare 10 = .ok (.astore_n 2, 1) := by decide +kernel
theorem dL_burntShare_11 : decode cL_burntShare 11 = .ok (.iconst 1, 1) := by decide +kernel
theorem dL_burntShare_12 : decode cL_burntShare 12 = .ok (.ireturn, 1) := by decide +kernel
theorem dL_burntShare_13 : decode cL_burntShare 13 = .ok (.iconst 0, 1) := by decide +kernel
theorem dL_burntShare_14 : decode cL_burntShare 14 = .ok (.ireturn, 1) := by decide +kernel
theorem dL_account_0 : decode cL_account 0 = .ok (.aload_n 2, 1) := by decide +kernel
theorem dL_account_1 : decode cL_account 1 = .ok (.iconst 0, 1) := by decide +kernel
theorem dL_account_2 : decode cL_account 2 = .ok (.aload_n 0, 1) := by decide +kernel
theorem dL_account_3 : decode cL_account 3 = .ok (.iload_n 1, 1) := by decide +kernel
theorem dL_account_4 : decode cL_account 4 = .ok (.invokevirtual 132, 3) := by decide +kernel
theorem dL_account_7 : decode cL_account 7 = .ok (.i2l, 1) := by decide +kernel
theorem dL_account_8 : decode cL_account 8 = .ok (.lastore, 1) := by decide +kernel
theorem dL_account_9 : decode cL_account 9 = .ok (.goto 6, 3) := by decide +kernel
theorem dL_account_12 : decode cL_account 12 = .ok (.astore_n 3, 1) := by decide +kernel
theorem dL_account_13 : decode cL_account 13 = .ok (.iconst 1, 1) := by decide +kernel
theorem dL_account_14 : decode cL_account 14 = .ok (.ireturn, 1) := by decide +kernel
theorem dL_account_15 : decode cL_account 15 = .ok (.iconst 0, 1) := by decide +kernel
theorem dL_account_16 : decode cL_account 16 = .ok (.ireturn, 1) := by decide +kernel
theorem dL_undo_0 : decode cL_undo 0 = .ok (.aload_n 1, 1) := by decide +kernel
theorem dL_undo_1 : decode cL_undo 1 = .ok (.iconst 0, 1) := by decide +kernel
theorem dL_undo_2 : decode cL_undo 2 = .ok (.aload_n 0, 1) := by decide +kernel
theorem dL_undo_3 : decode cL_undo 3 = .ok (.invokevirtual 135, 3) := by decide +kernel
theorem dL_undo_6 : decode cL_undo 6 = .ok (.i2l, 1) := by decide +kernel
theorem dL_undo_7 : decode cL_undo 7 = .ok (.lastore, 1) := by decide +kernel
theorem dL_undo_8 : decode cL_undo 8 = .ok (.goto 6, 3) := by decide +kernel
theorem dL_undo_11 : decode cL_undo 11 = .ok (.astore_n 2, 1) := by decide +kernel
theorem dL_undo_12 : decode cL_undo 12 = .ok (.iconst 1, 1) := by decide +kernel
theorem dL_undo_13 : decode cL_undo 13 = .ok (.ireturn, 1) := by decide +kernel
theorem dL_undo_14 : decode cL_undo 14 = .ok (.iconst 0, 1) := by decide +kernel
theorem dL_undo_15 : decode cL_undo 15 = .ok (.ireturn, 1) := by decide +kernel
theorem dL_restore_0 : decode cL_restore 0 = .ok (.aload_n 1, 1) := by decide +kernel
theorem dL_restore_1 : decode cL_restore 1 = .ok (.iconst 0, 1) := by decide +kernel
theorem dL_restore_2 : decode cL_restore 2 = .ok (.aload_n 0, 1) := by decide +kernel
theorem dL_restore_3 : decode cL_restore 3 = .ok (.invokevirtual 138, 3) := by decide +kernel
theorem dL_restore_6 : decode cL_restore 6 = .ok (.i2l, 1) := by decide +kernel
theorem dL_restore_7 : decode cL_restore 7 = .ok (.lastore, 1) := by decide +kernel
theorem dL_restore_8 : decode cL_restore 8 = .ok (.goto 6, 3) := by decide +kernel
theorem dL_restore_11 : decode cL_restore 11 = .ok (.astore_n 2, 1) := by decide +kernel
theorem dL_restore_12 : decode cL_restore 12 = .ok (.iconst 1, 1) := by decide +kernel
theorem dL_restore_13 : decode cL_restore 13 = .ok (.ireturn, 1) := by decide +kernel
theorem dL_restore_14 : decode cL_restore 14 = .ok (.iconst 0, 1) := by decide +kernel
theorem dL_restore_15 : decode cL_restore 15 = .ok (.ireturn, 1) := by decide +kernel
theorem dL_law_0 : decode cL_law 0 = .ok (.new 8, 3) := by decide +kernel
theorem dL_law_3 : decode cL_law 3 = .ok (.dup, 1) := by decide +kernel
theorem dL_law_4 : decode cL_law 4 = .ok (.invokespecial 141, 3) := by decide +kernel
theorem dL_law_7 : decode cL_law 7 = .ok (.astore_n 1, 1) := by decide +kernel
theorem dL_law_8 : decode cL_law 8 = .ok (.new 142, 3) := by decide +kernel
theorem dL_law_11 : decode cL_law 11 = .ok (.dup, 1) := by decide +kernel
theorem dL_law_12 : decode cL_law 12 = .ok (.invokespecial 144, 3) := by decide +kernel
theorem dL_law_15 : decode cL_law 15 = .ok (.astore_n 2, 1) := by decide +kernel
theorem dL_law_16 : decode cL_law 16 = .ok (.iconst 1, 1) := by decide +kernel
theorem dL_law_17 : decode cL_law 17 = .ok (.newarray .long, 2) := by decide +kernel
theorem dL_law_19 : decode cL_law 19 = .ok (.astore_n 3, 1) := by decide +kernel
theorem dL_law_20 : decode cL_law 20 = .ok (.iconst 1, 1) := by decide +kernel
theorem dL_law_21 : decode cL_law 21 = .ok (.newarray .double, 2) := by decide +kernel
theorem dL_law_23 : decode cL_law 23 = .ok (.astore 4, 2) := by decide +kernel
theorem dL_law_25 : decode cL_law 25 = .ok (.iconst 0, 1) := by decide +kernel
theorem dL_law_26 : decode cL_law 26 = .ok (.istore 5, 2) := by decide +kernel
theorem dL_law_28 : decode cL_law 28 = .ok (.iload 5, 2) := by decide +kernel
theorem dL_law_30 : decode cL_law 30 = .ok (.aload_n 0, 1) := by decide +kernel
theorem dL_law_31 : decode cL_law 31 = .ok (.arraylength, 1) := by decide +kernel
theorem dL_law_32 : decode cL_law 32 = .ok (.iconst 4, 1) := by decide +kernel
theorem dL_law_33 : decode cL_law 33 = .ok (.isub, 1) := by decide +kernel
theorem dL_law_34 : decode cL_law 34 = .ok (.if_icmp .gt 2392, 3) := by decide +kernel
theorem dL_law_37 : decode cL_law 37 = .ok (.aload_n 0, 1) := by decide +kernel
theorem dL_law_38 : decode cL_law 38 = .ok (.iload 5, 2) := by decide +kernel
theorem dL_law_40 : decode cL_law 40 = .ok (.iaload, 1) := by decide +kernel
theorem dL_law_41 : decode cL_law 41 = .ok (.bipush 63, 2) := by decide +kernel
theorem dL_law_43 : decode cL_law 43 = .ok (.iand, 1) := by decide +kernel
theorem dL_law_44 : decode cL_law 44 = .ok (.tableswitch 2376 0 39 #[176, 232, 288, 344, 424, 480, 536, 592, 648, 692, 748, 804, 860, 928, 1024, 1092, 1148, 1204, 1267, 1330, 1398, 1466, 1522, 1578, 1622, 1690, 1703, 1771, 1829, 1873, 1886, 1942, 1998, 2054, 2110, 2154, 2219, 2275, 2319, 2332], 176) := by decide +kernel
theorem dL_law_220 : decode cL_law 220 = .ok (.aload_n 1, 1) := by decide +kernel
theorem dL_law_221 : decode cL_law 221 = .ok (.aload_n 0, 1) := by decide +kernel
theorem dL_law_222 : decode cL_law 222 = .ok (.iload 5, 2) := by decide +kernel
theorem dL_law_224 : decode cL_law 224 = .ok (.iconst 1, 1) := by decide +kernel
theorem dL_law_225 : decode cL_law 225 = .ok (.iadd, 1) := by decide +kernel
theorem dL_law_226 : decode cL_law 226 = .ok (.iaload, 1) := by decide +kernel
theorem dL_law_227 : decode cL_law 227 = .ok (.aload_n 3, 1) := by decide +kernel
theorem dL_law_228 : decode cL_law 228 = .ok (.invokestatic 145, 3) := by decide +kernel
theorem dL_law_231 : decode cL_law 231 = .ok (.istore 6, 2) := by decide +kernel
theorem dL_law_233 : decode cL_law 233 = .ok (.aload_n 2, 1) := by decide +kernel
theorem dL_law_234 : decode cL_law 234 = .ok (.aload_n 0, 1) := by decide +kernel
theorem dL_law_235 : decode cL_law 235 = .ok (.iload 5, 2) := by decide +kernel
theorem dL_law_237 : decode cL_law 237 = .ok (.iconst 1, 1) := by decide +kernel
theorem dL_law_238 : decode cL_law 238 = .ok (.iadd, 1) := by decide +kernel
theorem dL_law_239 : decode cL_law 239 = .ok (.iaload, 1) := by decide +kernel
theorem dL_law_240 : decode cL_law 240 = .ok (.invokevirtual 150, 3) := by decide +kernel
theorem dL_law_243 : decode cL_law 243 = .ok (.istore 7, 2) := by decide +kernel
theorem dL_law_245 : decode cL_law 245 = .ok (.aload_n 2, 1) := by decide +kernel
theorem dL_law_246 : decode cL_law 246 = .ok (.invokevirtual 151, 3) := by decide +kernel
theorem dL_law_249 : decode cL_law 249 = .ok (.iload 6, 2) := by decide +kernel
theorem dL_law_251 : decode cL_law 251 = .ok (.if_icmp .eq 5, 3) := by decide +kernel
theorem dL_law_254 : decode cL_law 254 = .ok (.iconst 0, 1) := by decide +kernel
theorem dL_law_255 : decode cL_law 255 = .ok (.ireturn, 1) := by decide +kernel
theorem dL_law_256 : decode cL_law 256 = .ok (.iload 6, 2) := by decide +kernel
theorem dL_law_258 : decode cL_law 258 = .ok (.ifCond .ne 15, 3) := by decide +kernel
theorem dL_law_261 : decode cL_law 261 = .ok (.aload_n 3, 1) := by decide +kernel
theorem dL_law_262 : decode cL_law 262 = .ok (.iconst 0, 1) := by decide +kernel
theorem dL_law_263 : decode cL_law 263 = .ok (.laload, 1) := by decide +kernel
theorem dL_law_264 : decode cL_law 264 = .ok (.iload 7, 2) := by decide +kernel
theorem dL_law_266 : decode cL_law 266 = .ok (.i2l, 1) := by decide +kernel
theorem dL_law_267 : decode cL_law 267 = .ok (.lcmp, 1) := by decide +kernel
theorem dL_law_268 : decode cL_law 268 = .ok (.ifCond .eq 5, 3) := by decide +kernel
theorem dL_law_271 : decode cL_law 271 = .ok (.iconst 0, 1) := by decide +kernel
theorem dL_law_272 : decode cL_law 272 = .ok (.ireturn, 1) := by decide +kernel
theorem dL_law_273 : decode cL_law 273 = .ok (.goto 2147, 3) := by decide +kernel
theorem dL_law_276 : decode cL_law 276 = .ok (.aload_n 1, 1) := by decide +kernel
theorem dL_law_277 : decode cL_law 277 = .ok (.aload_n 0, 1) := by decide +kernel
theorem dL_law_278 : decode cL_law 278 = .ok (.iload 5, 2) := by decide +kernel
theorem dL_law_280 : decode cL_law 280 = .ok (.iconst 1, 1) := by decide +kernel
theorem dL_law_281 : decode cL_law 281 = .ok (.iadd, 1) := by decide +kernel
theorem dL_law_282 : decode cL_law 282 = .ok (.iaload, 1) := by decide +kernel
theorem dL_law_283 : decode cL_law 283 = .ok (.aload_n 3, 1) := by decide +kernel
theorem dL_law_284 : decode cL_law 284 = .ok (.invokestatic 154, 3) := by decide +kernel
theorem dL_law_287 : decode cL_law 287 = .ok (.istore 6, 2) := by decide +kernel
theorem dL_law_289 : decode cL_law 289 = .ok (.aload_n 2, 1) := by decide +kernel
theorem dL_law_290 : decode cL_law 290 = .ok (.aload_n 0, 1) := by decide +kernel
theorem dL_law_291 : decode cL_law 291 = .ok (.iload 5, 2) := by decide +kernel
theorem dL_law_293 : decode cL_law 293 = .ok (.iconst 1, 1) := by decide +kernel
theorem dL_law_294 : decode cL_law 294 = .ok (.iadd, 1) := by decide +kernel
theorem dL_law_295 : decode cL_law 295 = .ok (.iaload, 1) := by decide +kernel
theorem dL_law_296 : decode cL_law 296 = .ok (.invokevirtual 156, 3) := by decide +kernel
theorem dL_law_299 : decode cL_law 299 = .ok (.istore 7, 2) := by decide +kernel
theorem dL_law_301 : decode cL_law 301 = .ok (.aload_n 2, 1) := by decide +kernel
theorem dL_law_302 : decode cL_law 302 = .ok (.invokevirtual 151, 3) := by decide +kernel
theorem dL_law_305 : decode cL_law 305 = .ok (.iload 6, 2) := by decide +kernel
theorem dL_law_307 : decode cL_law 307 = .ok (.if_icmp .eq 5, 3) := by decide +kernel
theorem dL_law_310 : decode cL_law 310 = .ok (.iconst 0, 1) := by decide +kernel
theorem dL_law_311 : decode cL_law 311 = .ok (.ireturn, 1) := by decide +kernel
theorem dL_law_312 : decode cL_law 312 = .ok (.iload 6, 2) := by decide +kernel
theorem dL_law_314 : decode cL_law 314 = .ok (.ifCond .ne 15, 3) := by decide +kernel
theorem dL_law_317 : decode cL_law 317 = .ok (.aload_n 3, 1) := by decide +kernel
theorem dL_law_318 : decode cL_law 318 = .ok (.iconst 0, 1) := by decide +kernel
theorem dL_law_319 : decode cL_law 319 = .ok (.laload, 1) := by decide +kernel
theorem dL_law_320 : decode cL_law 320 = .ok (.iload 7, 2) := by decide +kernel
theorem dL_law_322 : decode cL_law 322 = .ok (.i2l, 1) := by decide +kernel
theorem dL_law_323 : decode cL_law 323 = .ok (.lcmp, 1) := by decide +kernel
theorem dL_law_324 : decode cL_law 324 = .ok (.ifCond .eq 5, 3) := by decide +kernel
theorem dL_law_327 : decode cL_law 327 = .ok (.iconst 0, 1) := by decide +kernel
theorem dL_law_328 : decode cL_law 328 = .ok (.ireturn, 1) := by decide +kernel
theorem dL_law_329 : decode cL_law 329 = .ok (.goto 2091, 3) := by decide +kernel
theorem dL_law_332 : decode cL_law 332 = .ok (.aload_n 1, 1) := by decide +kernel
theorem dL_law_333 : decode cL_law 333 = .ok (.aload_n 0, 1) := by decide +kernel
theorem dL_law_334 : decode cL_law 334 = .ok (.iload 5, 2) := by decide +kernel
theorem dL_law_336 : decode cL_law 336 = .ok (.iconst 1, 1) := by decide +kernel
theorem dL_law_337 : decode cL_law 337 = .ok (.iadd, 1) := by decide +kernel
theorem dL_law_338 : decode cL_law 338 = .ok (.iaload, 1) := by decide +kernel
theorem dL_law_339 : decode cL_law 339 = .ok (.aload_n 3, 1) := by decide +kernel
theorem dL_law_340 : decode cL_law 340 = .ok (.invokestatic 157, 3) := by decide +kernel
theorem dL_law_343 : decode cL_law 343 = .ok (.istore 6, 2) := by decide +kernel
theorem dL_law_345 : decode cL_law 345 = .ok (.aload_n 2, 1) := by decide +kernel
theorem dL_law_346 : decode cL_law 346 = .ok (.aload_n 0, 1) := by decide +kernel
theorem dL_law_347 : decode cL_law 347 = .ok (.iload 5, 2) := by decide +kernel
theorem dL_law_349 : decode cL_law 349 = .ok (.iconst 1, 1) := by decide +kernel
theorem dL_law_350 : decode cL_law 350 = .ok (.iadd, 1) := by decide +kernel
theorem dL_law_351 : decode cL_law 351 = .ok (.iaload, 1) := by decide +kernel
theorem dL_law_352 : decode cL_law 352 = .ok (.invokevirtual 159, 3) := by decide +kernel
theorem dL_law_355 : decode cL_law 355 = .ok (.istore 7, 2) := by decide +kernel
theorem dL_law_357 : decode cL_law 357 = .ok (.aload_n 2, 1) := by decide +kernel
theorem dL_law_358 : decode cL_law 358 = .ok (.invokevirtual 151, 3) := by decide +kernel
theorem dL_law_361 : decode cL_law 361 = .ok (.iload 6, 2) := by decide +kernel
theorem dL_law_363 : decode cL_law 363 = .ok (.if_icmp .eq 5, 3) := by decide +kernel
theorem dL_law_366 : decode cL_law 366 = .ok (.iconst 0, 1) := by decide +kernel
theorem dL_law_367 : decode cL_law 367 = .ok (.ireturn, 1) := by decide +kernel
theorem dL_law_368 : decode cL_law 368 = .ok (.iload 6, 2) := by decide +kernel
theorem dL_law_370 : decode cL_law 370 = .ok (.ifCond .ne 15, 3) := by decide +kernel
theorem dL_law_373 : decode cL_law 373 = .ok (.aload_n 3, 1) := by decide +kernel
theorem dL_law_374 : decode cL_law 374 = .ok (.iconst 0, 1) := by decide +kernel
theorem dL_law_375 : decode cL_law 375 = .ok (.laload, 1) := by decide +kernel
theorem dL_law_376 : decode cL_law 376 = .ok (.iload 7, 2) := by decide +kernel
theorem dL_law_378 : decode cL_law 378 = .ok (.i2l, 1) := by decide +kernel
theorem dL_law_379 : decode cL_law 379 = .ok (.lcmp, 1) := by decide +kernel
theorem dL_law_380 : decode cL_law 380 = .ok (.ifCond .eq 5, 3) := by decide +kernel
theorem dL_law_383 : decode cL_law 383 = .ok (.iconst 0, 1) := by decide +kernel
theorem dL_law_384 : decode cL_law 384 = .ok (.ireturn, 1) := by decide +kernel
theorem dL_law_385 : decode cL_law 385 = .ok (.goto 2035, 3) := by decide +kernel
theorem dL_law_388 : decode cL_law 388 = .ok (.aload_n 1, 1) := by decide +kernel
theorem dL_law_389 : decode cL_law 389 = .ok (.aload_n 0, 1) := by decide +kernel
theorem dL_law_390 : decode cL_law 390 = .ok (.iload 5, 2) := by decide +kernel
theorem dL_law_392 : decode cL_law 392 = .ok (.iconst 1, 1) := by decide +kernel
theorem dL_law_393 : decode cL_law 393 = .ok (.iadd, 1) := by decide +kernel
theorem dL_law_394 : decode cL_law 394 = .ok (.iaload, 1) := by decide +kernel
theorem dL_law_395 : decode cL_law 395 = .ok (.aload_n 0, 1) := by decide +kernel
theorem dL_law_396 : decode cL_law 396 = .ok (.iload 5, 2) := by decide +kernel
theorem dL_law_398 : decode cL_law 398 = .ok (.iconst 2, 1) := by decide +kernel
theorem dL_law_399 : decode cL_law 399 = .ok (.iadd, 1) := by decide +kernel
theorem dL_law_400 : decode cL_law 400 = .ok (.iaload, 1) := by decide +kernel
theorem dL_law_401 : decode cL_law 401 = .ok (.aload_n 0, 1) := by decide +kernel
theorem dL_law_402 : decode cL_law 402 = .ok (.iload 5, 2) := by decide +kernel
theorem dL_law_404 : decode cL_law 404 = .ok (.iconst 3, 1) := by decide +kernel
theorem dL_law_405 : decode cL_law 405 = .ok (.iadd, 1) := by decide +kernel
theorem dL_law_406 : decode cL_law 406 = .ok (.iaload, 1) := by decide +kernel
theorem dL_law_407 : decode cL_law 407 = .ok (.aload_n 3, 1) := by decide +kernel
theorem dL_law_408 : decode cL_law 408 = .ok (.invokestatic 160, 3) := by decide +kernel
theorem dL_law_411 : decode cL_law 411 = .ok (.istore 6, 2) := by decide +kernel
theorem dL_law_413 : decode cL_law 413 = .ok (.aload_n 2, 1) := by decide +kernel
theorem dL_law_414 : decode cL_law 414 = .ok (.aload_n 0, 1) := by decide +kernel
theorem dL_law_415 : decode cL_law 415 = .ok (.iload 5, 2) := by decide +kernel
theorem dL_law_417 : decode cL_law 417 = .ok (.iconst 1, 1) := by decide +kernel
theorem dL_law_418 : decode cL_law 418 = .ok (.iadd, 1) := by decide +kernel
theorem dL_law_419 : decode cL_law 419 = .ok (.iaload, 1) := by decide +kernel
theorem dL_law_420 : decode cL_law 420 = .ok (.aload_n 0, 1) := by decide +kernel
theorem dL_law_421 : decode cL_law 421 = .ok (.iload 5, 2) := by decide +kernel
theorem dL_law_423 : decode cL_law 423 = .ok (.iconst 2, 1) := by decide +kernel
theorem dL_law_424 : decode cL_law 424 = .ok (.iadd, 1) := by decide +kernel
theorem dL_law_425 : decode cL_law 425 = .ok (.iaload, 1) := by decide +kernel
theorem dL_law_426 : decode cL_law 426 = .ok (.aload_n 0, 1) := by decide +kernel
theorem dL_law_427 : decode cL_law 427 = .ok (.iload 5, 2) := by decide +kernel
theorem dL_law_429 : decode cL_law 429 = .ok (.iconst 3, 1) := by decide +kernel
theorem dL_law_430 : decode cL_law 430 = .ok (.iadd, 1) := by decide +kernel
theorem dL_law_431 : decode cL_law 431 = .ok (.iaload, 1) := by decide +kernel
theorem dL_law_432 : decode cL_law 432 = .ok (.invokevirtual 163, 3) := by decide +kernel
theorem dL_law_435 : decode cL_law 435 = .ok (.istore 7, 2) := by decide +kernel
theorem dL_law_437 : decode cL_law 437 = .ok (.aload_n 2, 1) := by decide +kernel
theorem dL_law_438 : decode cL_law 438 = .ok (.invokevirtual 151, 3) := by decide +kernel
theorem dL_law_441 : decode cL_law 441 = .ok (.iload 6, 2) := by decide +kernel
theorem dL_law_443 : decode cL_law 443 = .ok (.if_icmp .eq 5, 3) := by decide +kernel
theorem dL_law_446 : decode cL_law 446 = .ok (.iconst 0, 1) := by decide +kernel
theorem dL_law_447 : decode cL_law 447 = .ok (.ireturn, 1) := by decide +kernel
theorem dL_law_448 : decode cL_law 448 = .ok (.iload 6, 2) := by decide +kernel
theorem dL_law_450 : decode cL_law 450 = .ok (.ifCond .ne 15, 3) := by decide +kernel
theorem dL_law_453 : decode cL_law 453 = .ok (.aload_n 3, 1) := by decide +kernel
theorem dL_law_454 : decode cL_law 454 = .ok (.iconst 0, 1) := by decide +kernel
theorem dL_law_455 : decode cL_law 455 = .ok (.laload, 1) := by decide +kernel
theorem dL_law_456 : decode cL_law 456 = .ok (.iload 7, 2) := by decide +kernel
theorem dL_law_458 : decode cL_law 458 = .ok (.i2l, 1) := by decide +kernel
theorem dL_law_459 : decode cL_law 459 = .ok (.lcmp, 1) := by decide +kernel
theorem dL_law_460 : decode cL_law 460 = .ok (.ifCond .eq 5, 3) := by decide +kernel
theorem dL_law_463 : decode cL_law 463 = .ok (.iconst 0, 1) := by decide +kernel
theorem dL_law_464 : decode cL_law 464 = .ok (.ireturn, 1) := by decide +kernel
theorem dL_law_465 : decode cL_law 465 = .ok (.goto 1955, 3) := by decide +kernel
theorem dL_law_468 : decode cL_law 468 = .ok (.aload_n 1, 1) := by decide +kernel
theorem dL_law_469 : decode cL_law 469 = .ok (.aload_n 0, 1) := by decide +kernel
theorem dL_law_470 : decode cL_law 470 = .ok (.iload 5, 2) := by decide +kernel
theorem dL_law_472 : decode cL_law 472 = .ok (.iconst 1, 1) := by decide +kernel
theorem dL_law_473 : decode cL_law 473 = .ok (.iadd, 1) := by decide +kernel
theorem dL_law_474 : decode cL_law 474 = .ok (.iaload, 1) := by decide +kernel
theorem dL_law_475 : decode cL_law 475 = .ok (.aload_n 3, 1) := by decide +kernel
theorem dL_law_476 : decode cL_law 476 = .ok (.invokestatic 164, 3) := by decide +kernel
theorem dL_law_479 : decode cL_law 479 = .ok (.istore 6, 2) := by decide +kernel
theorem dL_law_481 : decode cL_law 481 = .ok (.aload_n 2, 1) := by decide +kernel
theorem dL_law_482 : decode cL_law 482 = .ok (.aload_n 0, 1) := by decide +kernel
theorem dL_law_483 : decode cL_law 483 = .ok (.iload 5, 2) := by decide +kernel
theorem dL_law_485 : decode cL_law 485 = .ok (.iconst 1, 1) := by decide +kernel
theorem dL_law_486 : decode cL_law 486 = .ok (.iadd, 1) := by decide +kernel
theorem dL_law_487 : decode cL_law 487 = .ok (.iaload, 1) := by decide +kernel
theorem dL_law_488 : decode cL_law 488 = .ok (.invokevirtual 166, 3) := by decide +kernel
theorem dL_law_491 : decode cL_law 491 = .ok (.istore 7, 2) := by decide +kernel
theorem dL_law_493 : decode cL_law 493 = .ok (.aload_n 2, 1) := by decide +kernel
theorem dL_law_494 : decode cL_law 494 = .ok (.invokevirtual 151, 3) := by decide +kernel
theorem dL_law_497 : decode cL_law 497 = .ok (.iload 6, 2) := by decide +kernel
theorem dL_law_499 : decode cL_law 499 = .ok (.if_icmp .eq 5, 3) := by decide +kernel
theorem dL_law_502 : decode cL_law 502 = .ok (.iconst 0, 1) := by decide +kernel
theorem dL_law_503 : decode cL_law 503 = .ok (.ireturn, 1) := by decide +kernel
theorem dL_law_504 : decode cL_law 504 = .ok (.iload 6, 2) := by decide +kernel
theorem dL_law_506 : decode cL_law 506 = .ok (.ifCond .ne 15, 3) := by decide +kernel
theorem dL_law_509 : decode cL_law 509 = .ok (.aload_n 3, 1) := by decide +kernel
theorem dL_law_510 : decode cL_law 510 = .ok (.iconst 0, 1) := by decide +kernel
theorem dL_law_511 : decode cL_law 511 = .ok (.laload, 1) := by decide +kernel
theorem dL_law_512 : decode cL_law 512 = .ok (.iload 7, 2) := by decide +kernel
theorem dL_law_514 : decode cL_law 514 = .ok (.i2l, 1) := by decide +kernel
theorem dL_law_515 : decode cL_law 515 = .ok (.lcmp, 1) := by decide +kernel
theorem dL_law_516 : decode cL_law 516 = .ok (.ifCond .eq 5, 3) := by decide +kernel
theorem dL_law_519 : decode cL_law 519 = .ok (.iconst 0, 1) := by decide +kernel
theorem dL_law_520 : decode cL_law 520 = .ok (.ireturn, 1) := by decide +kernel
theorem dL_law_521 : decode cL_law 521 = .ok (.goto 1899, 3) := by decide +kernel
theorem dL_law_524 : decode cL_law 524 = .ok (.aload_n 1, 1) := by decide +kernel
theorem dL_law_525 : decode cL_law 525 = .ok (.aload_n 0, 1) := by decide +kernel
theorem dL_law_526 : decode cL_law 526 = .ok (.iload 5, 2) := by decide +kernel
theorem dL_law_528 : decode cL_law 528 = .ok (.iconst 1, 1) := by decide +kernel
theorem dL_law_529 : decode cL_law 529 = .ok (.iadd, 1) := by decide +kernel
theorem dL_law_530 : decode cL_law 530 = .ok (.iaload, 1) := by decide +kernel
theorem dL_law_531 : decode cL_law 531 = .ok (.aload_n 3, 1) := by decide +kernel
theorem dL_law_532 : decode cL_law 532 = .ok (.invokestatic 167, 3) := by decide +kernel
theorem dL_law_535 : decode cL_law 535 = .ok (.istore 6, 2) := by decide +kernel
theorem dL_law_537 : decode cL_law 537 = .ok (.aload_n 2, 1) := by decide +kernel
theorem dL_law_538 : decode cL_law 538 = .ok (.aload_n 0, 1) := by decide +kernel
theorem dL_law_539 : decode cL_law 539 = .ok (.iload 5, 2) := by decide +kernel
theorem dL_law_541 : decode cL_law 541 = .ok (.iconst 1, 1) := by decide +kernel
theorem dL_law_542 : decode cL_law 542 = .ok (.iadd, 1) := by decide +kernel
theorem dL_law_543 : decode cL_law 543 = .ok (.iaload, 1) := by decide +kernel
theorem dL_law_544 : decode cL_law 544 = .ok (.invokevirtual 169, 3) := by decide +kernel
theorem dL_law_547 : decode cL_law 547 = .ok (.istore 7, 2) := by decide +kernel
theorem dL_law_549 : decode cL_law 549 = .ok (.aload_n 2, 1) := by decide +kernel
theorem dL_law_550 : decode cL_law 550 = .ok (.invokevirtual 151, 3) := by decide +kernel
theorem dL_law_553 : decode cL_law 553 = .ok (.iload 6, 2) := by decide +kernel
theorem dL_law_555 : decode cL_law 555 = .ok (.if_icmp .eq 5, 3) := by decide +kernel
theorem dL_law_558 : decode cL_law 558 = .ok (.iconst 0, 1) := by decide +kernel
theorem dL_law_559 : decode cL_law 559 = .ok (.ireturn, 1) := by decide +kernel
theorem dL_law_560 : decode cL_law 560 = .ok (.iload 6, 2) := by decide +kernel
theorem dL_law_562 : decode cL_law 562 = .ok (.ifCond .ne 15, 3) := by decide +kernel
theorem dL_law_565 : decode cL_law 565 = .ok (.aload_n 3, 1) := by decide +kernel
theorem dL_law_566 : decode cL_law 566 = .ok (.iconst 0, 1) := by decide +kernel
theorem dL_law_567 : decode cL_law 567 = .ok (.laload, 1) := by decide +kernel
theorem dL_law_568 : decode cL_law 568 = .ok (.iload 7, 2) := by decide +kernel
theorem dL_law_570 : decode cL_law 570 = .ok (.i2l, 1) := by decide +kernel
theorem dL_law_571 : decode cL_law 571 = .ok (.lcmp, 1) := by decide +kernel
theorem dL_law_572 : decode cL_law 572 = .ok (.ifCond .eq 5, 3) := by decide +kernel
theorem dL_law_575 : decode cL_law 575 = .ok (.iconst 0, 1) := by decide +kernel
theorem dL_law_576 : decode cL_law 576 = .ok (.ireturn, 1) := by decide +kernel
theorem dL_law_577 : decode cL_law 577 = .ok (.goto 1843, 3) := by decide +kernel
theorem dL_law_580 : decode cL_law 580 = .ok (.aload_n 1, 1) := by decide +kernel
theorem dL_law_581 : decode cL_law 581 = .ok (.aload_n 0, 1) := by decide +kernel
theorem dL_law_582 : decode cL_law 582 = .ok (.iload 5, 2) := by decide +kernel
theorem dL_law_584 : decode cL_law 584 = .ok (.iconst 1, 1) := by decide +kernel
theorem dL_law_585 : decode cL_law 585 = .ok (.iadd, 1) := by decide +kernel
theorem dL_law_586 : decode cL_law 586 = .ok (.iaload, 1) := by decide +kernel
theorem dL_law_587 : decode cL_law 587 = .ok (.aload_n 3, 1) := by decide +kernel
theorem dL_law_588 : decode cL_law 588 = .ok (.invokestatic 170, 3) := by decide +kernel
theorem dL_law_591 : decode cL_law 591 = .ok (.istore 6, 2) := by decide +kernel
theorem dL_law_593 : decode cL_law 593 = .ok (.aload_n 2, 1) := by decide +kernel
theorem dL_law_594 : decode cL_law 594 = .ok (.aload_n 0, 1) := by decide +kernel
theorem dL_law_595 : decode cL_law 595 = .ok (.iload 5, 2) := by decide +kernel
theorem dL_law_597 : decode cL_law 597 = .ok (.iconst 1, 1) := by decide +kernel
theorem dL_law_598 : decode cL_law 598 = .ok (.iadd, 1) := by decide +kernel
theorem dL_law_599 : decode cL_law 599 = .ok (.iaload, 1) := by decide +kernel
theorem dL_law_600 : decode cL_law 600 = .ok (.invokevirtual 172, 3) := by decide +kernel
theorem dL_law_603 : decode cL_law 603 = .ok (.istore 7, 2) := by decide +kernel
theorem dL_law_605 : decode cL_law 605 = .ok (.aload_n 2, 1) := by decide +kernel
theorem dL_law_606 : decode cL_law 606 = .ok (.invokevirtual 151, 3) := by decide +kernel
theorem dL_law_609 : decode cL_law 609 = .ok (.iload 6, 2) := by decide +kernel
theorem dL_law_611 : decode cL_law 611 = .ok (.if_icmp .eq 5, 3) := by decide +kernel
theorem dL_law_614 : decode cL_law 614 = .ok (.iconst 0, 1) := by decide +kernel
theorem dL_law_615 : decode cL_law 615 = .ok (.ireturn, 1) := by decide +kernel
theorem dL_law_616 : decode cL_law 616 = .ok (.iload 6, 2) := by decide +kernel
theorem dL_law_618 : decode cL_law 618 = .ok (.ifCond .ne 15, 3) := by decide +kernel
theorem dL_law_621 : decode cL_law 621 = .ok (.aload_n 3, 1) := by decide +kernel
theorem dL_law_622 : decode cL_law 622 = .ok (.iconst 0, 1) := by decide +kernel
theorem dL_law_623 : decode cL_law 623 = .ok (.laload, 1) := by decide +kernel
theorem dL_law_624 : decode cL_law 624 = .ok (.iload 7, 2) := by decide +kernel
theorem dL_law_626 : decode cL_law 626 = .ok (.i2l, 1) := by decide +kernel
theorem dL_law_627 : decode cL_law 627 = .ok (.lcmp, 1) := by decide +kernel
theorem dL_law_628 : decode cL_law 628 = .ok (.ifCond .eq 5, 3) := by decide +kernel
theorem dL_law_631 : decode cL_law 631 = .ok (.iconst 0, 1) := by decide +kernel
theorem dL_law_632 : decode cL_law 632 = .ok (.ireturn, 1) := by decide +kernel
theorem dL_law_633 : decode cL_law 633 = .ok (.goto 1787, 3) := by decide +kernel
theorem dL_law_636 : decode cL_law 636 = .ok (.aload_n 1, 1) := by decide +kernel
theorem dL_law_637 : decode cL_law 637 = .ok (.aload_n 0, 1) := by decide +kernel
theorem dL_law_638 : decode cL_law 638 = .ok (.iload 5, 2) := by decide +kernel
theorem dL_law_640 : decode cL_law 640 = .ok (.iconst 1, 1) := by decide +kernel
theorem dL_law_641 : decode cL_law 641 = .ok (.iadd, 1) := by decide +kernel
theorem dL_law_642 : decode cL_law 642 = .ok (.iaload, 1) := by decide +kernel
theorem dL_law_643 : decode cL_law 643 = .ok (.aload_n 3, 1) := by decide +kernel
theorem dL_law_644 : decode cL_law 644 = .ok (.invokestatic 173, 3) := by decide +kernel
theorem dL_law_647 : decode cL_law 647 = .ok (.istore 6, 2) := by decide +kernel
theorem dL_law_649 : decode cL_law 649 = .ok (.aload_n 2, 1) := by decide +kernel
theorem dL_law_650 : decode cL_law 650 = .ok (.aload_n 0, 1) := by decide +kernel
theorem dL_law_651 : decode cL_law 651 = .ok (.iload 5, 2) := by decide +kernel
theorem dL_law_653 : decode cL_law 653 = .ok (.iconst 1, 1) := by decide +kernel
end
section
theorem dL_law_654 : decode cL_law 654 = .ok (.iadd, 1) := by decide +kernel
theorem dL_law_655 : decode cL_law 655 = .ok (.iaload, 1) := by decide +kernel
theorem dL_law_656 : decode cL_law 656 = .ok (.invokevirtual 175, 3) := by decide +kernel
theorem dL_law_659 : decode cL_law 659 = .ok (.istore 7, 2) := by decide +kernel
theorem dL_law_661 : decode cL_law 661 = .ok (.aload_n 2, 1) := by decide +kernel
theorem dL_law_662 : decode cL_law 662 = .ok (.invokevirtual 151, 3) := by decide +kernel
theorem dL_law_665 : decode cL_law 665 = .ok (.iload 6, 2) := by decide +kernel
theorem dL_law_667 : decode cL_law 667 = .ok (.if_icmp .eq 5, 3) := by decide +kernel
theorem dL_law_670 : decode cL_law 670 = .ok (.iconst 0, 1) := by decide +kernel
theorem dL_law_671 : decode cL_law 671 = .ok (.ireturn, 1) := by decide +kernel
theorem dL_law_672 : decode cL_law 672 = .ok (.iload 6, 2) := by decide +kernel
theorem dL_law_674 : decode cL_law 674 = .ok (.ifCond .ne 15, 3) := by decide +kernel
theorem dL_law_677 : decode cL_law 677 = .ok (.aload_n 3, 1) := by decide +kernel
theorem dL_law_678 : decode cL_law 678 = .ok (.iconst 0, 1) := by decide +kernel
theorem dL_law_679 : decode cL_law 679 = .ok (.laload, 1) := by decide +kernel
theorem dL_law_680 : decode cL_law 680 = .ok (.iload 7, 2) := by decide +kernel
theorem dL_law_682 : decode cL_law 682 = .ok (.i2l, 1) := by decide +kernel
theorem dL_law_683 : decode cL_law 683 = .ok (.lcmp, 1) := by decide +kernel
theorem dL_law_684 : decode cL_law 684 = .ok (.ifCond .eq 5, 3) := by decide +kernel
theorem dL_law_687 : decode cL_law 687 = .ok (.iconst 0, 1) := by decide +kernel
theorem dL_law_688 : decode cL_law 688 = .ok (.ireturn, 1) := by decide +kernel
theorem dL_law_689 : decode cL_law 689 = .ok (.goto 1731, 3) := by decide +kernel
theorem dL_law_692 : decode cL_law 692 = .ok (.aload_n 1, 1) := by decide +kernel
theorem dL_law_693 : decode cL_law 693 = .ok (.aload_n 3, 1) := by decide +kernel
theorem dL_law_694 : decode cL_law 694 = .ok (.invokestatic 176, 3) := by decide +kernel
theorem dL_law_697 : decode cL_law 697 = .ok (.istore 6, 2) := by decide +kernel
theorem dL_law_699 : decode cL_law 699 = .ok (.aload_n 2, 1) := by decide +kernel
theorem dL_law_700 : decode cL_law 700 = .ok (.invokevirtual 179, 3) := by decide +kernel
theorem dL_law_703 : decode cL_law 703 = .ok (.istore 7, 2) := by decide +kernel
theorem dL_law_705 : decode cL_law 705 = .ok (.aload_n 2, 1) := by decide +kernel
theorem dL_law_706 : decode cL_law 706 = .ok (.invokevirtual 151, 3) := by decide +kernel
theorem dL_law_709 : decode cL_law 709 = .ok (.iload 6, 2) := by decide +kernel
theorem dL_law_711 : decode cL_law 711 = .ok (.if_icmp .eq 5, 3) := by decide +kernel
theorem dL_law_714 : decode cL_law 714 = .ok (.iconst 0, 1) := by decide +kernel
theorem dL_law_715 : decode cL_law 715 = .ok (.ireturn, 1) := by decide +kernel
theorem dL_law_716 : decode cL_law 716 = .ok (.iload 6, 2) := by decide +kernel
theorem dL_law_718 : decode cL_law 718 = .ok (.ifCond .ne 15, 3) := by decide +kernel
theorem dL_law_721 : decode cL_law 721 = .ok (.aload_n 3, 1) := by decide +kernel
theorem dL_law_722 : decode cL_law 722 = .ok (.iconst 0, 1) := by decide +kernel
theorem dL_law_723 : decode cL_law 723 = .ok (.laload, 1) := by decide +kernel
theorem dL_law_724 : decode cL_law 724 = .ok (.iload 7, 2) := by decide +kernel
theorem dL_law_726 : decode cL_law 726 = .ok (.i2l, 1) := by decide +kernel
theorem dL_law_727 : decode cL_law 727 = .ok (.lcmp, 1) := by decide +kernel
theorem dL_law_728 : decode cL_law 728 = .ok (.ifCond .eq 5, 3) := by decide +kernel
theorem dL_law_731 : decode cL_law 731 = .ok (.iconst 0, 1) := by decide +kernel
theorem dL_law_732 : decode cL_law 732 = .ok (.ireturn, 1) := by decide +kernel
theorem dL_law_733 : decode cL_law 733 = .ok (.goto 1687, 3) := by decide +kernel
theorem dL_law_736 : decode cL_law 736 = .ok (.aload_n 1, 1) := by decide +kernel
theorem dL_law_737 : decode cL_law 737 = .ok (.aload_n 0, 1) := by decide +kernel
theorem dL_law_738 : decode cL_law 738 = .ok (.iload 5, 2) := by decide +kernel
theorem dL_law_740 : decode cL_law 740 = .ok (.iconst 1, 1) := by decide +kernel
theorem dL_law_741 : decode cL_law 741 = .ok (.iadd, 1) := by decide +kernel
theorem dL_law_742 : decode cL_law 742 = .ok (.iaload, 1) := by decide +kernel
theorem dL_law_743 : decode cL_law 743 = .ok (.aload_n 3, 1) := by decide +kernel
theorem dL_law_744 : decode cL_law 744 = .ok (.invokestatic 180, 3) := by decide +kernel
theorem dL_law_747 : decode cL_law 747 = .ok (.istore 6, 2) := by decide +kernel
theorem dL_law_749 : decode cL_law 749 = .ok (.aload_n 2, 1) := by decide +kernel
theorem dL_law_750 : decode cL_law 750 = .ok (.aload_n 0, 1) := by decide +kernel
theorem dL_law_751 : decode cL_law 751 = .ok (.iload 5, 2) := by decide +kernel
theorem dL_law_753 : decode cL_law 753 = .ok (.iconst 1, 1) := by decide +kernel
theorem dL_law_754 : decode cL_law 754 = .ok (.iadd, 1) := by decide +kernel
theorem dL_law_755 : decode cL_law 755 = .ok (.iaload, 1) := by decide +kernel
theorem dL_law_756 : decode cL_law 756 = .ok (.invokevirtual 182, 3) := by decide +kernel
theorem dL_law_759 : decode cL_law 759 = .ok (.istore 7, 2) := by decide +kernel
theorem dL_law_761 : decode cL_law 761 = .ok (.aload_n 2, 1) := by decide +kernel
theorem dL_law_762 : decode cL_law 762 = .ok (.invokevirtual 151, 3) := by decide +kernel
theorem dL_law_765 : decode cL_law 765 = .ok (.iload 6, 2) := by decide +kernel
theorem dL_law_767 : decode cL_law 767 = .ok (.if_icmp .eq 5, 3) := by decide +kernel
theorem dL_law_770 : decode cL_law 770 = .ok (.iconst 0, 1) := by decide +kernel
theorem dL_law_771 : decode cL_law 771 = .ok (.ireturn, 1) := by decide +kernel
theorem dL_law_772 : decode cL_law 772 = .ok (.iload 6, 2) := by decide +kernel
theorem dL_law_774 : decode cL_law 774 = .ok (.ifCond .ne 15, 3) := by decide +kernel
theorem dL_law_777 : decode cL_law 777 = .ok (.aload_n 3, 1) := by decide +kernel
theorem dL_law_778 : decode cL_law 778 = .ok (.iconst 0, 1) := by decide +kernel
theorem dL_law_779 : decode cL_law 779 = .ok (.laload, 1) := by decide +kernel
theorem dL_law_780 : decode cL_law 780 = .ok (.iload 7, 2) := by decide +kernel
theorem dL_law_782 : decode cL_law 782 = .ok (.i2l, 1) := by decide +kernel
theorem dL_law_783 : decode cL_law 783 = .ok (.lcmp, 1) := by decide +kernel
theorem dL_law_784 : decode cL_law 784 = .ok (.ifCond .eq 5, 3) := by decide +kernel
theorem dL_law_787 : decode cL_law 787 = .ok (.iconst 0, 1) := by decide +kernel
theorem dL_law_788 : decode cL_law 788 = .ok (.ireturn, 1) := by decide +kernel
theorem dL_law_789 : decode cL_law 789 = .ok (.goto 1631, 3) := by decide +kernel
theorem dL_law_792 : decode cL_law 792 = .ok (.aload_n 1, 1) := by decide +kernel
theorem dL_law_793 : decode cL_law 793 = .ok (.aload_n 0, 1) := by decide +kernel
theorem dL_law_794 : decode cL_law 794 = .ok (.iload 5, 2) := by decide +kernel
theorem dL_law_796 : decode cL_law 796 = .ok (.iconst 1, 1) := by decide +kernel
theorem dL_law_797 : decode cL_law 797 = .ok (.iadd, 1) := by decide +kernel
theorem dL_law_798 : decode cL_law 798 = .ok (.iaload, 1) := by decide +kernel
theorem dL_law_799 : decode cL_law 799 = .ok (.aload_n 3, 1) := by decide +kernel
theorem dL_law_800 : decode cL_law 800 = .ok (.invokestatic 183, 3) := by decide +kernel
theorem dL_law_803 : decode cL_law 803 = .ok (.istore 6, 2) := by decide +kernel
theorem dL_law_805 : decode cL_law 805 = .ok (.aload_n 2, 1) := by decide +kernel
theorem dL_law_806 : decode cL_law 806 = .ok (.aload_n 0, 1) := by decide +kernel
theorem dL_law_807 : decode cL_law 807 = .ok (.iload 5, 2) := by decide +kernel
theorem dL_law_809 : decode cL_law 809 = .ok (.iconst 1, 1) := by decide +kernel
theorem dL_law_810 : decode cL_law 810 = .ok (.iadd, 1) := by decide +kernel
theorem dL_law_811 : decode cL_law 811 = .ok (.iaload, 1) := by decide +kernel
theorem dL_law_812 : decode cL_law 812 = .ok (.invokevirtual 185, 3) := by decide +kernel
theorem dL_law_815 : decode cL_law 815 = .ok (.istore 7, 2) := by decide +kernel
theorem dL_law_817 : decode cL_law 817 = .ok (.aload_n 2, 1) := by decide +kernel
theorem dL_law_818 : decode cL_law 818 = .ok (.invokevirtual 151, 3) := by decide +kernel
theorem dL_law_821 : decode cL_law 821 = .ok (.iload 6, 2) := by decide +kernel
theorem dL_law_823 : decode cL_law 823 = .ok (.if_icmp .eq 5, 3) := by decide +kernel
theorem dL_law_826 : decode cL_law 826 = .ok (.iconst 0, 1) := by decide +kernel
theorem dL_law_827 : decode cL_law 827 = .ok (.ireturn, 1) := by decide +kernel
theorem dL_law_828 : decode cL_law 828 = .ok (.iload 6, 2) := by decide +kernel
theorem dL_law_830 : decode cL_law 830 = .ok (.ifCond .ne 15, 3) := by decide +kernel
theorem dL_law_833 : decode cL_law 833 = .ok (.aload_n 3, 1) := by decide +kernel
theorem dL_law_834 : decode cL_law 834 = .ok (.iconst 0, 1) := by decide +kernel
theorem dL_law_835 : decode cL_law 835 = .ok (.laload, 1) := by decide +kernel
theorem dL_law_836 : decode cL_law 836 = .ok (.iload 7, 2) := by decide +kernel
theorem dL_law_838 : decode cL_law 838 = .ok (.i2l, 1) := by decide +kernel
theorem dL_law_839 : decode cL_law 839 = .ok (.lcmp, 1) := by decide +kernel
theorem dL_law_840 : decode cL_law 840 = .ok (.ifCond .eq 5, 3) := by decide +kernel
theorem dL_law_843 : decode cL_law 843 = .ok (.iconst 0, 1) := by decide +kernel
theorem dL_law_844 : decode cL_law 844 = .ok (.ireturn, 1) := by decide +kernel
theorem dL_law_845 : decode cL_law 845 = .ok (.goto 1575, 3) := by decide +kernel
theorem dL_law_848 : decode cL_law 848 = .ok (.aload_n 1, 1) := by decide +kernel
theorem dL_law_849 : decode cL_law 849 = .ok (.aload_n 0, 1) := by decide +kernel
theorem dL_law_850 : decode cL_law 850 = .ok (.iload 5, 2) := by decide +kernel
theorem dL_law_852 : decode cL_law 852 = .ok (.iconst 1, 1) := by decide +kernel
theorem dL_law_853 : decode cL_law 853 = .ok (.iadd, 1) := by decide +kernel
theorem dL_law_854 : decode cL_law 854 = .ok (.iaload, 1) := by decide +kernel
theorem dL_law_855 : decode cL_law 855 = .ok (.aload_n 3, 1) := by decide +kernel
theorem dL_law_856 : decode cL_law 856 = .ok (.invokestatic 186, 3) := by decide +kernel
theorem dL_law_859 : decode cL_law 859 = .ok (.istore 6, 2) := by decide +kernel
theorem dL_law_861 : decode cL_law 861 = .ok (.aload_n 2, 1) := by decide +kernel
theorem dL_law_862 : decode cL_law 862 = .ok (.aload_n 0, 1) := by decide +kernel
theorem dL_law_863 : decode cL_law 863 = .ok (.iload 5, 2) := by decide +kernel
theorem dL_law_865 : decode cL_law 865 = .ok (.iconst 1, 1) := by decide +kernel
theorem dL_law_866 : decode cL_law 866 = .ok (.iadd, 1) := by decide +kernel
theorem dL_law_867 : decode cL_law 867 = .ok (.iaload, 1) := by decide +kernel
theorem dL_law_868 : decode cL_law 868 = .ok (.invokevirtual 188, 3) := by decide +kernel
theorem dL_law_871 : decode cL_law 871 = .ok (.istore 7, 2) := by decide +kernel
theorem dL_law_873 : decode cL_law 873 = .ok (.aload_n 2, 1) := by decide +kernel
theorem dL_law_874 : decode cL_law 874 = .ok (.invokevirtual 151, 3) := by decide +kernel
theorem dL_law_877 : decode cL_law 877 = .ok (.iload 6, 2) := by decide +kernel
theorem dL_law_879 : decode cL_law 879 = .ok (.if_icmp .eq 5, 3) := by decide +kernel
theorem dL_law_882 : decode cL_law 882 = .ok (.iconst 0, 1) := by decide +kernel
theorem dL_law_883 : decode cL_law 883 = .ok (.ireturn, 1) := by decide +kernel
theorem dL_law_884 : decode cL_law 884 = .ok (.iload 6, 2) := by decide +kernel
theorem dL_law_886 : decode cL_law 886 = .ok (.ifCond .ne 15, 3) := by decide +kernel
theorem dL_law_889 : decode cL_law 889 = .ok (.aload_n 3, 1) := by decide +kernel
theorem dL_law_890 : decode cL_law 890 = .ok (.iconst 0, 1) := by decide +kernel
theorem dL_law_891 : decode cL_law 891 = .ok (.laload, 1) := by decide +kernel
theorem dL_law_892 : decode cL_law 892 = .ok (.iload 7, 2) := by decide +kernel
theorem dL_law_894 : decode cL_law 894 = .ok (.i2l, 1) := by decide +kernel
theorem dL_law_895 : decode cL_law 895 = .ok (.lcmp, 1) := by decide +kernel
theorem dL_law_896 : decode cL_law 896 = .ok (.ifCond .eq 5, 3) := by decide +kernel
theorem dL_law_899 : decode cL_law 899 = .ok (.iconst 0, 1) := by decide +kernel
theorem dL_law_900 : decode cL_law 900 = .ok (.ireturn, 1) := by decide +kernel
theorem dL_law_901 : decode cL_law 901 = .ok (.goto 1519, 3) := by decide +kernel
theorem dL_law_904 : decode cL_law 904 = .ok (.aload_n 1, 1) := by decide +kernel
theorem dL_law_905 : decode cL_law 905 = .ok (.aload_n 0, 1) := by decide +kernel
theorem dL_law_906 : decode cL_law 906 = .ok (.iload 5, 2) := by decide +kernel
theorem dL_law_908 : decode cL_law 908 = .ok (.iconst 1, 1) := by decide +kernel
theorem dL_law_909 : decode cL_law 909 = .ok (.iadd, 1) := by decide +kernel
theorem dL_law_910 : decode cL_law 910 = .ok (.iaload, 1) := by decide +kernel
theorem dL_law_911 : decode cL_law 911 = .ok (.aload_n 0, 1) := by decide +kernel
theorem dL_law_912 : decode cL_law 912 = .ok (.iload 5, 2) := by decide +kernel
theorem dL_law_914 : decode cL_law 914 = .ok (.iconst 2, 1) := by decide +kernel
theorem dL_law_915 : decode cL_law 915 = .ok (.iadd, 1) := by decide +kernel
theorem dL_law_916 : decode cL_law 916 = .ok (.iaload, 1) := by decide +kernel
theorem dL_law_917 : decode cL_law 917 = .ok (.aload_n 3, 1) := by decide +kernel
theorem dL_law_918 : decode cL_law 918 = .ok (.invokestatic 189, 3) := by decide +kernel
theorem dL_law_921 : decode cL_law 921 = .ok (.istore 6, 2) := by decide +kernel
theorem dL_law_923 : decode cL_law 923 = .ok (.aload_n 2, 1) := by decide +kernel
theorem dL_law_924 : decode cL_law 924 = .ok (.aload_n 0, 1) := by decide +kernel
theorem dL_law_925 : decode cL_law 925 = .ok (.iload 5, 2) := by decide +kernel
theorem dL_law_927 : decode cL_law 927 = .ok (.iconst 1, 1) := by decide +kernel
theorem dL_law_928 : decode cL_law 928 = .ok (.iadd, 1) := by decide +kernel
theorem dL_law_929 : decode cL_law 929 = .ok (.iaload, 1) := by decide +kernel
theorem dL_law_930 : decode cL_law 930 = .ok (.aload_n 0, 1) := by decide +kernel
theorem dL_law_931 : decode cL_law 931 = .ok (.iload 5, 2) := by decide +kernel
theorem dL_law_933 : decode cL_law 933 = .ok (.iconst 2, 1) := by decide +kernel
theorem dL_law_934 : decode cL_law 934 = .ok (.iadd, 1) := by decide +kernel
theorem dL_law_935 : decode cL_law 935 = .ok (.iaload, 1) := by decide +kernel
theorem dL_law_936 : decode cL_law 936 = .ok (.invokevirtual 192, 3) := by decide +kernel
theorem dL_law_939 : decode cL_law 939 = .ok (.istore 7, 2) := by decide +kernel
theorem dL_law_941 : decode cL_law 941 = .ok (.aload_n 2, 1) := by decide +kernel
theorem dL_law_942 : decode cL_law 942 = .ok (.invokevirtual 151, 3) := by decide +kernel
theorem dL_law_945 : decode cL_law 945 = .ok (.iload 6, 2) := by decide +kernel
theorem dL_law_947 : decode cL_law 947 = .ok (.if_icmp .eq 5, 3) := by decide +kernel
theorem dL_law_950 : decode cL_law 950 = .ok (.iconst 0, 1) := by decide +kernel
theorem dL_law_951 : decode cL_law 951 = .ok (.ireturn, 1) := by decide +kernel
theorem dL_law_952 : decode cL_law 952 = .ok (.iload 6, 2) := by decide +kernel
theorem dL_law_954 : decode cL_law 954 = .ok (.ifCond .ne 15, 3) := by decide +kernel
theorem dL_law_957 : decode cL_law 957 = .ok (.aload_n 3, 1) := by decide +kernel
theorem dL_law_958 : decode cL_law 958 = .ok (.iconst 0, 1) := by decide +kernel
theorem dL_law_959 : decode cL_law 959 = .ok (.laload, 1) := by decide +kernel
theorem dL_law_960 : decode cL_law 960 = .ok (.iload 7, 2) := by decide +kernel
theorem dL_law_962 : decode cL_law 962 = .ok (.i2l, 1) := by decide +kernel
theorem dL_law_963 : decode cL_law 963 = .ok (.lcmp, 1) := by decide +kernel
theorem dL_law_964 : decode cL_law 964 = .ok (.ifCond .eq 5, 3) := by decide +kernel
theorem dL_law_967 : decode cL_law 967 = .ok (.iconst 0, 1) := by decide +kernel
theorem dL_law_968 : decode cL_law 968 = .ok (.ireturn, 1) := by decide +kernel
theorem dL_law_969 : decode cL_law 969 = .ok (.goto 1451, 3) := by decide +kernel
theorem dL_law_972 : decode cL_law 972 = .ok (.aload_n 1, 1) := by decide +kernel
theorem dL_law_973 : decode cL_law 973 = .ok (.aload_n 0, 1) := by decide +kernel
theorem dL_law_974 : decode cL_law 974 = .ok (.iload 5, 2) := by decide +kernel
theorem dL_law_976 : decode cL_law 976 = .ok (.iconst 1, 1) := by decide +kernel
theorem dL_law_977 : decode cL_law 977 = .ok (.iadd, 1) := by decide +kernel
theorem dL_law_978 : decode cL_law 978 = .ok (.iaload, 1) := by decide +kernel
theorem dL_law_979 : decode cL_law 979 = .ok (.aload_n 0, 1) := by decide +kernel
theorem dL_law_980 : decode cL_law 980 = .ok (.iload 5, 2) := by decide +kernel
theorem dL_law_982 : decode cL_law 982 = .ok (.iconst 2, 1) := by decide +kernel
theorem dL_law_983 : decode cL_law 983 = .ok (.iadd, 1) := by decide +kernel
theorem dL_law_984 : decode cL_law 984 = .ok (.iaload, 1) := by decide +kernel
theorem dL_law_985 : decode cL_law 985 = .ok (.aload_n 0, 1) := by decide +kernel
theorem dL_law_986 : decode cL_law 986 = .ok (.iload 5, 2) := by decide +kernel
theorem dL_law_988 : decode cL_law 988 = .ok (.iconst 3, 1) := by decide +kernel
theorem dL_law_989 : decode cL_law 989 = .ok (.iadd, 1) := by decide +kernel
theorem dL_law_990 : decode cL_law 990 = .ok (.iaload, 1) := by decide +kernel
theorem dL_law_991 : decode cL_law 991 = .ok (.ifCond .eq 7, 3) := by decide +kernel
theorem dL_law_994 : decode cL_law 994 = .ok (.iconst 1, 1) := by decide +kernel
theorem dL_law_995 : decode cL_law 995 = .ok (.goto 4, 3) := by decide +kernel
theorem dL_law_998 : decode cL_law 998 = .ok (.iconst 0, 1) := by decide +kernel
theorem dL_law_999 : decode cL_law 999 = .ok (.aload_n 3, 1) := by decide +kernel
theorem dL_law_1000 : decode cL_law 1000 = .ok (.invokestatic 193, 3) := by decide +kernel
theorem dL_law_1003 : decode cL_law 1003 = .ok (.istore 6, 2) := by decide +kernel
theorem dL_law_1005 : decode cL_law 1005 = .ok (.aload_n 2, 1) := by decide +kernel
theorem dL_law_1006 : decode cL_law 1006 = .ok (.aload_n 0, 1) := by decide +kernel
theorem dL_law_1007 : decode cL_law 1007 = .ok (.iload 5, 2) := by decide +kernel
theorem dL_law_1009 : decode cL_law 1009 = .ok (.iconst 1, 1) := by decide +kernel
theorem dL_law_1010 : decode cL_law 1010 = .ok (.iadd, 1) := by decide +kernel
theorem dL_law_1011 : decode cL_law 1011 = .ok (.iaload, 1) := by decide +kernel
theorem dL_law_1012 : decode cL_law 1012 = .ok (.aload_n 0, 1) := by decide +kernel
theorem dL_law_1013 : decode cL_law 1013 = .ok (.iload 5, 2) := by decide +kernel
theorem dL_law_1015 : decode cL_law 1015 = .ok (.iconst 2, 1) := by decide +kernel
theorem dL_law_1016 : decode cL_law 1016 = .ok (.iadd, 1) := by decide +kernel
theorem dL_law_1017 : decode cL_law 1017 = .ok (.iaload, 1) := by decide +kernel
theorem dL_law_1018 : decode cL_law 1018 = .ok (.aload_n 0, 1) := by decide +kernel
theorem dL_law_1019 : decode cL_law 1019 = .ok (.iload 5, 2) := by decide +kernel
theorem dL_law_1021 : decode cL_law 1021 = .ok (.iconst 3, 1) := by decide +kernel
theorem dL_law_1022 : decode cL_law 1022 = .ok (.iadd, 1) := by decide +kernel
theorem dL_law_1023 : decode cL_law 1023 = .ok (.iaload, 1) := by decide +kernel
theorem dL_law_1024 : decode cL_law 1024 = .ok (.ifCond .eq 7, 3) := by decide +kernel
theorem dL_law_1027 : decode cL_law 1027 = .ok (.iconst 1, 1) := by decide +kernel
theorem dL_law_1028 : decode cL_law 1028 = .ok (.goto 4, 3) := by decide +kernel
theorem dL_law_1031 : decode cL_law 1031 = .ok (.iconst 0, 1) := by decide +kernel
theorem dL_law_1032 : decode cL_law 1032 = .ok (.invokevirtual 196, 3) := by decide +kernel
theorem dL_law_1035 : decode cL_law 1035 = .ok (.istore 7, 2) := by decide +kernel
theorem dL_law_1037 : decode cL_law 1037 = .ok (.aload_n 2, 1) := by decide +kernel
theorem dL_law_1038 : decode cL_law 1038 = .ok (.invokevirtual 151, 3) := by decide +kernel
theorem dL_law_1041 : decode cL_law 1041 = .ok (.iload 6, 2) := by decide +kernel
theorem dL_law_1043 : decode cL_law 1043 = .ok (.if_icmp .eq 5, 3) := by decide +kernel
theorem dL_law_1046 : decode cL_law 1046 = .ok (.iconst 0, 1) := by decide +kernel
theorem dL_law_1047 : decode cL_law 1047 = .ok (.ireturn, 1) := by decide +kernel
theorem dL_law_1048 : decode cL_law 1048 = .ok (.iload 6, 2) := by decide +kernel
theorem dL_law_1050 : decode cL_law 1050 = .ok (.ifCond .ne 15, 3) := by decide +kernel
theorem dL_law_1053 : decode cL_law 1053 = .ok (.aload_n 3, 1) := by decide +kernel
theorem dL_law_1054 : decode cL_law 1054 = .ok (.iconst 0, 1) := by decide +kernel
theorem dL_law_1055 : decode cL_law 1055 = .ok (.laload, 1) := by decide +kernel
theorem dL_law_1056 : decode cL_law 1056 = .ok (.iload 7, 2) := by decide +kernel
theorem dL_law_1058 : decode cL_law 1058 = .ok (.i2l, 1) := by decide +kernel
theorem dL_law_1059 : decode cL_law 1059 = .ok (.lcmp, 1) := by decide +kernel
theorem dL_law_1060 : decode cL_law 1060 = .ok (.ifCond .eq 5, 3) := by decide +kernel
theorem dL_law_1063 : decode cL_law 1063 = .ok (.iconst 0, 1) := by decide +kernel
theorem dL_law_1064 : decode cL_law 1064 = .ok (.ireturn, 1) := by decide +kernel
theorem dL_law_1065 : decode cL_law 1065 = .ok (.goto 1355, 3) := by decide +kernel
theorem dL_law_1068 : decode cL_law 1068 = .ok (.aload_n 1, 1) := by decide +kernel
theorem dL_law_1069 : decode cL_law 1069 = .ok (.aload_n 0, 1) := by decide +kernel
theorem dL_law_1070 : decode cL_law 1070 = .ok (.iload 5, 2) := by decide +kernel
theorem dL_law_1072 : decode cL_law 1072 = .ok (.iconst 1, 1) := by decide +kernel
theorem dL_law_1073 : decode cL_law 1073 = .ok (.iadd, 1) := by decide +kernel
theorem dL_law_1074 : decode cL_law 1074 = .ok (.iaload, 1) := by decide +kernel
theorem dL_law_1075 : decode cL_law 1075 = .ok (.aload_n 0, 1) := by decide +kernel
theorem dL_law_1076 : decode cL_law 1076 = .ok (.iload 5, 2) := by decide +kernel
theorem dL_law_1078 : decode cL_law 1078 = .ok (.iconst 2, 1) := by decide +kernel
theorem dL_law_1079 : decode cL_law 1079 = .ok (.iadd, 1) := by decide +kernel
theorem dL_law_1080 : decode cL_law 1080 = .ok (.iaload, 1) := by decide +kernel
theorem dL_law_1081 : decode cL_law 1081 = .ok (.aload_n 3, 1) := by decide +kernel
theorem dL_law_1082 : decode cL_law 1082 = .ok (.invokestatic 197, 3) := by decide +kernel
theorem dL_law_1085 : decode cL_law 1085 = .ok (.istore 6, 2) := by decide +kernel
theorem dL_law_1087 : decode cL_law 1087 = .ok (.aload_n 2, 1) := by decide +kernel
theorem dL_law_1088 : decode cL_law 1088 = .ok (.aload_n 0, 1) := by decide +kernel
theorem dL_law_1089 : decode cL_law 1089 = .ok (.iload 5, 2) := by decide +kernel
theorem dL_law_1091 : decode cL_law 1091 = .ok (.iconst 1, 1) := by decide +kernel
theorem dL_law_1092 : decode cL_law 1092 = .ok (.iadd, 1) := by decide +kernel
theorem dL_law_1093 : decode cL_law 1093 = .ok (.iaload, 1) := by decide +kernel
theorem dL_law_1094 : decode cL_law 1094 = .ok (.aload_n 0, 1) := by decide +kernel
theorem dL_law_1095 : decode cL_law 1095 = .ok (.iload 5, 2) := by decide +kernel
theorem dL_law_1097 : decode cL_law 1097 = .ok (.iconst 2, 1) := by decide +kernel
theorem dL_law_1098 : decode cL_law 1098 = .ok (.iadd, 1) := by decide +kernel
theorem dL_law_1099 : decode cL_law 1099 = .ok (.iaload, 1) := by decide +kernel
theorem dL_law_1100 : decode cL_law 1100 = .ok (.invokevirtual 199, 3) := by decide +kernel
theorem dL_law_1103 : decode cL_law 1103 = .ok (.istore 7, 2) := by decide +kernel
theorem dL_law_1105 : decode cL_law 1105 = .ok (.aload_n 2, 1) := by decide +kernel
theorem dL_law_1106 : decode cL_law 1106 = .ok (.invokevirtual 151, 3) := by decide +kernel
theorem dL_law_1109 : decode cL_law 1109 = .ok (.iload 6, 2) := by decide +kernel
theorem dL_law_1111 : decode cL_law 1111 = .ok (.if_icmp .eq 5, 3) := by decide +kernel
theorem dL_law_1114 : decode cL_law 1114 = .ok (.iconst 0, 1) := by decide +kernel
theorem dL_law_1115 : decode cL_law 1115 = .ok (.ireturn, 1) := by decide +kernel
theorem dL_law_1116 : decode cL_law 1116 = .ok (.iload 6, 2) := by decide +kernel
theorem dL_law_1118 : decode cL_law 1118 = .ok (.ifCond .ne 15, 3) := by decide +kernel
theorem dL_law_1121 : decode cL_law 1121 = .ok (.aload_n 3, 1) := by decide +kernel
theorem dL_law_1122 : decode cL_law 1122 = .ok (.iconst 0, 1) := by decide +kernel
theorem dL_law_1123 : decode cL_law 1123 = .ok (.laload, 1) := by decide +kernel
theorem dL_law_1124 : decode cL_law 1124 = .ok (.iload 7, 2) := by decide +kernel
theorem dL_law_1126 : decode cL_law 1126 = .ok (.i2l, 1) := by decide +kernel
theorem dL_law_1127 : decode cL_law 1127 = .ok (.lcmp, 1) := by decide +kernel
theorem dL_law_1128 : decode cL_law 1128 = .ok (.ifCond .eq 5, 3) := by decide +kernel
theorem dL_law_1131 : decode cL_law 1131 = .ok (.iconst 0, 1) := by decide +kernel
theorem dL_law_1132 : decode cL_law 1132 = .ok (.ireturn, 1) := by decide +kernel
theorem dL_law_1133 : decode cL_law 1133 = .ok (.goto 1287, 3) := by decide +kernel
theorem dL_law_1136 : decode cL_law 1136 = .ok (.aload_n 1, 1) := by decide +kernel
theorem dL_law_1137 : decode cL_law 1137 = .ok (.aload_n 0, 1) := by decide +kernel
theorem dL_law_1138 : decode cL_law 1138 = .ok (.iload 5, 2) := by decide +kernel
theorem dL_law_1140 : decode cL_law 1140 = .ok (.iconst 1, 1) := by decide +kernel
theorem dL_law_1141 : decode cL_law 1141 = .ok (.iadd, 1) := by decide +kernel
theorem dL_law_1142 : decode cL_law 1142 = .ok (.iaload, 1) := by decide +kernel
theorem dL_law_1143 : decode cL_law 1143 = .ok (.aload_n 3, 1) := by decide +kernel
theorem dL_law_1144 : decode cL_law 1144 = .ok (.invokestatic 200, 3) := by decide +kernel
theorem dL_law_1147 : decode cL_law 1147 = .ok (.istore 6, 2) := by decide +kernel
theorem dL_law_1149 : decode cL_law 1149 = .ok (.aload_n 2, 1) := by decide +kernel
theorem dL_law_1150 : decode cL_law 1150 = .ok (.aload_n 0, 1) := by decide +kernel
theorem dL_law_1151 : decode cL_law 1151 = .ok (.iload 5, 2) := by decide +kernel
theorem dL_law_1153 : decode cL_law 1153 = .ok (.iconst 1, 1) := by decide +kernel
theorem dL_law_1154 : decode cL_law 1154 = .ok (.iadd, 1) := by decide +kernel
theorem dL_law_1155 : decode cL_law 1155 = .ok (.iaload, 1) := by decide +kernel
theorem dL_law_1156 : decode cL_law 1156 = .ok (.invokevirtual 202, 3) := by decide +kernel
theorem dL_law_1159 : decode cL_law 1159 = .ok (.istore 7, 2) := by decide +kernel
theorem dL_law_1161 : decode cL_law 1161 = .ok (.aload_n 2, 1) := by decide +kernel
theorem dL_law_1162 : decode cL_law 1162 = .ok (.invokevirtual 151, 3) := by decide +kernel
theorem dL_law_1165 : decode cL_law 1165 = .ok (.iload 6, 2) := by decide +kernel
theorem dL_law_1167 : decode cL_law 1167 = .ok (.if_icmp .eq 5, 3) := by decide +kernel
theorem dL_law_1170 : decode cL_law 1170 = .ok (.iconst 0, 1) := by decide +kernel
theorem dL_law_1171 : decode cL_law 1171 = .ok (.ireturn, 1) := by decide +kernel
theorem dL_law_1172 : decode cL_law 1172 = .ok (.iload 6, 2) := by decide +kernel
theorem dL_law_1174 : decode cL_law 1174 = .ok (.ifCond .ne 15, 3) := by decide +kernel
theorem dL_law_1177 : decode cL_law 1177 = .ok (.aload_n 3, 1) := by decide +kernel
theorem dL_law_1178 : decode cL_law 1178 = .ok (.iconst 0, 1) := by decide +kernel
theorem dL_law_1179 : decode cL_law 1179 = .ok (.laload, 1) := by decide +kernel
theorem dL_law_1180 : decode cL_law 1180 = .ok (.iload 7, 2) := by decide +kernel
theorem dL_law_1182 : decode cL_law 1182 = .ok (.i2l, 1) := by decide +kernel
theorem dL_law_1183 : decode cL_law 1183 = .ok (.lcmp, 1) := by decide +kernel
theorem dL_law_1184 : decode cL_law 1184 = .ok (.ifCond .eq 5, 3) := by decide +kernel
theorem dL_law_1187 : decode cL_law 1187 = .ok (.iconst 0, 1) := by decide +kernel
theorem dL_law_1188 : decode cL_law 1188 = .ok (.ireturn, 1) := by decide +kernel
theorem dL_law_1189 : decode cL_law 1189 = .ok (.goto 1231, 3) := by decide +kernel
theorem dL_law_1192 : decode cL_law 1192 = .ok (.aload_n 1, 1) := by decide +kernel
theorem dL_law_1193 : decode cL_law 1193 = .ok (.aload_n 0, 1) := by decide +kernel
theorem dL_law_1194 : decode cL_law 1194 = .ok (.iload 5, 2) := by decide +kernel
theorem dL_law_1196 : decode cL_law 1196 = .ok (.iconst 1, 1) := by decide +kernel
theorem dL_law_1197 : decode cL_law 1197 = .ok (.iadd, 1) := by decide +kernel
theorem dL_law_1198 : decode cL_law 1198 = .ok (.iaload, 1) := by decide +kernel
theorem dL_law_1199 : decode cL_law 1199 = .ok (.aload_n 3, 1) := by decide +kernel
theorem dL_law_1200 : decode cL_law 1200 = .ok (.invokestatic 203, 3) := by decide +kernel
theorem dL_law_1203 : decode cL_law 1203 = .ok (.istore 6, 2) := by decide +kernel
theorem dL_law_1205 : decode cL_law 1205 = .ok (.aload_n 2, 1) := by decide +kernel
theorem dL_law_1206 : decode cL_law 1206 = .ok (.aload_n 0, 1) := by decide +kernel
theorem dL_law_1207 : decode cL_law 1207 = .ok (.iload 5, 2) := by decide +kernel
theorem dL_law_1209 : decode cL_law 1209 = .ok (.iconst 1, 1) := by decide +kernel
theorem dL_law_1210 : decode cL_law 1210 = .ok (.iadd, 1) := by decide +kernel
theorem dL_law_1211 : decode cL_law 1211 = .ok (.iaload, 1) := by decide +kernel
theorem dL_law_1212 : decode cL_law 1212 = .ok (.invokevirtual 205, 3) := by decide +kernel
theorem dL_law_1215 : decode cL_law 1215 = .ok (.istore 7, 2) := by decide +kernel
theorem dL_law_1217 : decode cL_law 1217 = .ok (.aload_n 2, 1) := by decide +kernel
theorem dL_law_1218 : decode cL_law 1218 = .ok (.invokevirtual 151, 3) := by decide +kernel
theorem dL_law_1221 : decode cL_law 1221 = .ok (.iload 6, 2) := by decide +kernel
theorem dL_law_1223 : decode cL_law 1223 = .ok (.if_icmp .eq 5, 3) := by decide +kernel
theorem dL_law_1226 : decode cL_law 1226 = .ok (.iconst 0, 1) := by decide +kernel
theorem dL_law_1227 : decode cL_law 1227 = .ok (.ireturn, 1) := by decide +kernel
theorem dL_law_1228 : decode cL_law 1228 = .ok (.iload 6, 2) := by decide +kernel
theorem dL_law_1230 : decode cL_law 1230 = .ok (.ifCond .ne 15, 3) := by decide +kernel
theorem dL_law_1233 : decode cL_law 1233 = .ok (.aload_n 3, 1) := by decide +kernel
theorem dL_law_1234 : decode cL_law 1234 = .ok (.iconst 0, 1) := by decide +kernel
theorem dL_law_1235 : decode cL_law 1235 = .ok (.laload, 1) := by decide +kernel
theorem dL_law_1236 : decode cL_law 1236 = .ok (.iload 7, 2) := by decide +kernel
theorem dL_law_1238 : decode cL_law 1238 = .ok (.i2l, 1) := by decide +kernel
theorem dL_law_1239 : decode cL_law 1239 = .ok (.lcmp, 1) := by decide +kernel
theorem dL_law_1240 : decode cL_law 1240 = .ok (.ifCond .eq 5, 3) := by decide +kernel
theorem dL_law_1243 : decode cL_law 1243 = .ok (.iconst 0, 1) := by decide +kernel
theorem dL_law_1244 : decode cL_law 1244 = .ok (.ireturn, 1) := by decide +kernel
theorem dL_law_1245 : decode cL_law 1245 = .ok (.goto 1175, 3) := by decide +kernel
theorem dL_law_1248 : decode cL_law 1248 = .ok (.aload_n 1, 1) := by decide +kernel
theorem dL_law_1249 : decode cL_law 1249 = .ok (.aload_n 0, 1) := by decide +kernel
theorem dL_law_1250 : decode cL_law 1250 = .ok (.iload 5, 2) := by decide +kernel
theorem dL_law_1252 : decode cL_law 1252 = .ok (.iconst 1, 1) := by decide +kernel
theorem dL_law_1253 : decode cL_law 1253 = .ok (.iadd, 1) := by decide +kernel
theorem dL_law_1254 : decode cL_law 1254 = .ok (.iaload, 1) := by decide +kernel
theorem dL_law_1255 : decode cL_law 1255 = .ok (.aload_n 3, 1) := by decide +kernel
theorem dL_law_1256 : decode cL_law 1256 = .ok (.invokestatic 206, 3) := by decide +kernel
theorem dL_law_1259 : decode cL_law 1259 = .ok (.istore 6, 2) := by decide +kernel
theorem dL_law_1261 : decode cL_law 1261 = .ok (.aload_n 2, 1) := by decide +kernel
theorem dL_law_1262 : decode cL_law 1262 = .ok (.aload_n 0, 1) := by decide +kernel
theorem dL_law_1263 : decode cL_law 1263 = .ok (.iload 5, 2) := by decide +kernel
theorem dL_law_1265 : decode cL_law 1265 = .ok (.iconst 1, 1) := by decide +kernel
theorem dL_law_1266 : decode cL_law 1266 = .ok (.iadd, 1) := by decide +kernel
theorem dL_law_1267 : decode cL_law 1267 = .ok (.iaload, 1) := by decide +kernel
theorem dL_law_1268 : decode cL_law 1268 = .ok (.invokevirtual 208, 3) := by decide +kernel
theorem dL_law_1271 : decode cL_law 1271 = .ok (.istore 7, 2) := by decide +kernel
theorem dL_law_1273 : decode cL_law 1273 = .ok (.aload_n 2, 1) := by decide +kernel
theorem dL_law_1274 : decode cL_law 1274 = .ok (.invokevirtual 151, 3) := by decide +kernel
theorem dL_law_1277 : decode cL_law 1277 = .ok (.iload 6, 2) := by decide +kernel
theorem dL_law_1279 : decode cL_law 1279 = .ok (.if_icmp .eq 5, 3) := by decide +kernel
theorem dL_law_1282 : decode cL_law 1282 = .ok (.iconst 0, 1) := by decide +kernel
theorem dL_law_1283 : decode cL_law 1283 = .ok (.ireturn, 1) := by decide +kernel
theorem dL_law_1284 : decode cL_law 1284 = .ok (.iload 6, 2) := by decide +kernel
theorem dL_law_1286 : decode cL_law 1286 = .ok (.ifCond .ne 22, 3) := by decide +kernel
theorem dL_law_1289 : decode cL_law 1289 = .ok (.aload_n 3, 1) := by decide +kernel
theorem dL_law_1290 : decode cL_law 1290 = .ok (.iconst 0, 1) := by decide +kernel
theorem dL_law_1291 : decode cL_law 1291 = .ok (.laload, 1) := by decide +kernel
theorem dL_law_1292 : decode cL_law 1292 = .ok (.iload 7, 2) := by decide +kernel
theorem dL_law_1294 : decode cL_law 1294 = .ok (.ifCond .eq 7, 3) := by decide +kernel
theorem dL_law_1297 : decode cL_law 1297 = .ok (.lconst 1, 1) := by decide +kernel
theorem dL_law_1298 : decode cL_law 1298 = .ok (.goto 4, 3) := by decide +kernel
theorem dL_law_1301 : decode cL_law 1301 = .ok (.lconst 0, 1) := by decide +kernel
theorem dL_law_1302 : decode cL_law 1302 = .ok (.lcmp, 1) := by decide +kernel
theorem dL_law_1303 : decode cL_law 1303 = .ok (.ifCond .eq 5, 3) := by decide +kernel
theorem dL_law_1306 : decode cL_law 1306 = .ok (.iconst 0, 1) := by decide +kernel
theorem dL_law_1307 : decode cL_law 1307 = .ok (.ireturn, 1) := by decide +kernel
theorem dL_law_1308 : decode cL_law 1308 = .ok (.goto 1112, 3) := by decide +kernel
theorem dL_law_1311 : decode cL_law 1311 = .ok (.aload_n 1, 1) := by decide +kernel
theorem dL_law_1312 : decode cL_law 1312 = .ok (.aload_n 0, 1) := by decide +kernel
theorem dL_law_1313 : decode cL_law 1313 = .ok (.iload 5, 2) := by decide +kernel
theorem dL_law_1315 : decode cL_law 1315 = .ok (.iconst 1, 1) := by decide +kernel
theorem dL_law_1316 : decode cL_law 1316 = .ok (.iadd, 1) := by decide +kernel
theorem dL_law_1317 : decode cL_law 1317 = .ok (.iaload, 1) := by decide +kernel
theorem dL_law_1318 : decode cL_law 1318 = .ok (.aload_n 3, 1) := by decide +kernel
theorem dL_law_1319 : decode cL_law 1319 = .ok (.invokestatic 209, 3) := by decide +kernel
theorem dL_law_1322 : decode cL_law 1322 = .ok (.istore 6, 2) := by decide +kernel
theorem dL_law_1324 : decode cL_law 1324 = .ok (.aload_n 2, 1) := by decide +kernel
theorem dL_law_1325 : decode cL_law 1325 = .ok (.aload_n 0, 1) := by decide +kernel
theorem dL_law_1326 : decode cL_law 1326 = .ok (.iload 5, 2) := by decide +kernel
theorem dL_law_1328 : decode cL_law 1328 = .ok (.iconst 1, 1) := by decide +kernel
theorem dL_law_1329 : decode cL_law 1329 = .ok (.iadd, 1) := by decide +kernel
theorem dL_law_1330 : decode cL_law 1330 = .ok (.iaload, 1) := by decide +kernel
theorem dL_law_1331 : decode cL_law 1331 = .ok (.invokevirtual 211, 3) := by decide +kernel
theorem dL_law_1334 : decode cL_law 1334 = .ok (.istore 7, 2) := by decide +kernel
theorem dL_law_1336 : decode cL_law 1336 = .ok (.aload_n 2, 1) := by decide +kernel
theorem dL_law_1337 : decode cL_law 1337 = .ok (.invokevirtual 151, 3) := by decide +kernel
theorem dL_law_1340 : decode cL_law 1340 = .ok (.iload 6, 2) := by decide +kernel
theorem dL_law_1342 : decode cL_law 1342 = .ok (.if_icmp .eq 5, 3) := by decide +kernel
theorem dL_law_1345 : decode cL_law 1345 = .ok (.iconst 0, 1) := by decide +kernel
theorem dL_law_1346 : decode cL_law 1346 = .ok (.ireturn, 1) := by decide +kernel
theorem dL_law_1347 : decode cL_law 1347 = .ok (.iload 6, 2) := by decide +kernel
theorem dL_law_1349 : decode cL_law 1349 = .ok (.ifCond .ne 22, 3) := by decide +kernel
theorem dL_law_1352 : decode cL_law 1352 = .ok (.aload_n 3, 1) := by decide +kernel
theorem dL_law_1353 : decode cL_law 1353 = .ok (.iconst 0, 1) := by decide +kernel
theorem dL_law_1354 : decode cL_law 1354 = .ok (.laload, 1) := by decide +kernel
theorem dL_law_1355 : decode cL_law 1355 = .ok (.iload 7, 2) := by decide +kernel
theorem dL_law_1357 : decode cL_law 1357 = .ok (.ifCond .eq 7, 3) := by decide +kernel
theorem dL_law_1360 : decode cL_law 1360 = .ok (.lconst 1, 1) := by decide +kernel
theorem dL_law_1361 : decode cL_law 1361 = .ok (.goto 4, 3) := by decide +kernel
theorem dL_law_1364 : decode cL_law 1364 = .ok (.lconst 0, 1) := by decide +kernel
theorem dL_law_1365 : decode cL_law 1365 = .ok (.lcmp, 1) := by decide +kernel
theorem dL_law_1366 : decode cL_law 1366 = .ok (.ifCond .eq 5, 3) := by decide +kernel
theorem dL_law_1369 : decode cL_law 1369 = .ok (.iconst 0, 1) := by decide +kernel
theorem dL_law_1370 : decode cL_law 1370 = .ok (.ireturn, 1) := by decide +kernel
theorem dL_law_1371 : decode cL_law 1371 = .ok (.goto 1049, 3) := by decide +kernel
theorem dL_law_1374 : decode cL_law 1374 = .ok (.aload_n 1, 1) := by decide +kernel
theorem dL_law_1375 : decode cL_law 1375 = .ok (.aload_n 0, 1) := by decide +kernel
theorem dL_law_1376 : decode cL_law 1376 = .ok (.iload 5, 2) := by decide +kernel
theorem dL_law_1378 : decode cL_law 1378 = .ok (.iconst 1, 1) := by decide +kernel
theorem dL_law_1379 : decode cL_law 1379 = .ok (.iadd, 1) := by decide +kernel
theorem dL_law_1380 : decode cL_law 1380 = .ok (.iaload, 1) := by decide +kernel
theorem dL_law_1381 : decode cL_law 1381 = .ok (.aload_n 0, 1) := by decide +kernel
theorem dL_law_1382 : decode cL_law 1382 = .ok (.iload 5, 2) := by decide +kernel
theorem dL_law_1384 : decode cL_law 1384 = .ok (.iconst 2, 1) := by decide +kernel
theorem dL_law_1385 : decode cL_law 1385 = .ok (.iadd, 1) := by decide +kernel
theorem dL_law_1386 : decode cL_law 1386 = .ok (.iaload, 1) := by decide +kernel
theorem dL_law_1387 : decode cL_law 1387 = .ok (.aload_n 3, 1) := by decide +kernel
theorem dL_law_1388 : decode cL_law 1388 = .ok (.invokestatic 212, 3) := by decide +kernel
theorem dL_law_1391 : decode cL_law 1391 = .ok (.istore 6, 2) := by decide +kernel
theorem dL_law_1393 : decode cL_law 1393 = .ok (.aload_n 2, 1) := by decide +kernel
theorem dL_law_1394 : decode cL_law 1394 = .ok (.aload_n 0, 1) := by decide +kernel
theorem dL_law_1395 : decode cL_law 1395 = .ok (.iload 5, 2) := by decide +kernel
theorem dL_law_1397 : decode cL_law 1397 = .ok (.iconst 1, 1) := by decide +kernel
theorem dL_law_1398 : decode cL_law 1398 = .ok (.iadd, 1) := by decide +kernel
theorem dL_law_1399 : decode cL_law 1399 = .ok (.iaload, 1) := by decide +kernel
theorem dL_law_1400 : decode cL_law 1400 = .ok (.aload_n 0, 1) := by decide +kernel
theorem dL_law_1401 : decode cL_law 1401 = .ok (.iload 5, 2) := by decide +kernel
theorem dL_law_1403 : decode cL_law 1403 = .ok (.iconst 2, 1) := by decide +kernel
theorem dL_law_1404 : decode cL_law 1404 = .ok (.iadd, 1) := by decide +kernel
theorem dL_law_1405 : decode cL_law 1405 = .ok (.iaload, 1) := by decide +kernel
theorem dL_law_1406 : decode cL_law 1406 = .ok (.invokevirtual 214, 3) := by decide +kernel
theorem dL_law_1409 : decode cL_law 1409 = .ok (.istore 7, 2) := by decide +kernel
theorem dL_law_1411 : decode cL_law 1411 = .ok (.aload_n 2, 1) := by decide +kernel
theorem dL_law_1412 : decode cL_law 1412 = .ok (.invokevirtual 151, 3) := by decide +kernel
theorem dL_law_1415 : decode cL_law 1415 = .ok (.iload 6, 2) := by decide +kernel
theorem dL_law_1417 : decode cL_law 1417 = .ok (.if_icmp .eq 5, 3) := by decide +kernel
theorem dL_law_1420 : decode cL_law 1420 = .ok (.iconst 0, 1) := by decide +kernel
theorem dL_law_1421 : decode cL_law 1421 = .ok (.ireturn, 1) := by decide +kernel
theorem dL_law_1422 : decode cL_law 1422 = .ok (.iload 6, 2) := by decide +kernel
theorem dL_law_1424 : decode cL_law 1424 = .ok (.ifCond .ne 15, 3) := by decide +kernel
theorem dL_law_1427 : decode cL_law 1427 = .ok (.aload_n 3, 1) := by decide +kernel
theorem dL_law_1428 : decode cL_law 1428 = .ok (.iconst 0, 1) := by decide +kernel
theorem dL_law_1429 : decode cL_law 1429 = .ok (.laload, 1) := by decide +kernel
theorem dL_law_1430 : decode cL_law 1430 = .ok (.iload 7, 2) := by decide +kernel
theorem dL_law_1432 : decode cL_law 1432 = .ok (.i2l, 1) := by decide +kernel
theorem dL_law_1433 : decode cL_law 1433 = .ok (.lcmp, 1) := by decide +kernel
theorem dL_law_1434 : decode cL_law 1434 = .ok (.ifCond .eq 5, 3) := by decide +kernel
theorem dL_law_1437 : decode cL_law 1437 = .ok (.iconst 0, 1) := by decide +kernel
theorem dL_law_1438 : decode cL_law 1438 = .ok (.ireturn, 1) := by decide +kernel
theorem dL_law_1439 : decode cL_law 1439 = .ok (.goto 981, 3) := by decide +kernel
theorem dL_law_1442 : decode cL_law 1442 = .ok (.aload_n 1, 1) := by decide +kernel
theorem dL_law_1443 : decode cL_law 1443 = .ok (.aload_n 0, 1) := by decide +kernel
theorem dL_law_1444 : decode cL_law 1444 = .ok (.iload 5, 2) := by decide +kernel
theorem dL_law_1446 : decode cL_law 1446 = .ok (.iconst 1, 1) := by decide +kernel
theorem dL_law_1447 : decode cL_law 1447 = .ok (.iadd, 1) := by decide +kernel
theorem dL_law_1448 : decode cL_law 1448 = .ok (.iaload, 1) := by decide +kernel
theorem dL_law_1449 : decode cL_law 1449 = .ok (.aload_n 0, 1) := by decide +kernel
theorem dL_law_1450 : decode cL_law 1450 = .ok (.iload 5, 2) := by decide +kernel
theorem dL_law_1452 : decode cL_law 1452 = .ok (.iconst 2, 1) := by decide +kernel
theorem dL_law_1453 : decode cL_law 1453 = .ok (.iadd, 1) := by decide +kernel
theorem dL_law_1454 : decode cL_law 1454 = .ok (.iaload, 1) := by decide +kernel
theorem dL_law_1455 : decode cL_law 1455 = .ok (.aload_n 3, 1) := by decide +kernel
theorem dL_law_1456 : decode cL_law 1456 = .ok (.invokestatic 215, 3) := by decide +kernel
theorem dL_law_1459 : decode cL_law 1459 = .ok (.istore 6, 2) := by decide +kernel
theorem dL_law_1461 : decode cL_law 1461 = .ok (.aload_n 2, 1) := by decide +kernel
theorem dL_law_1462 : decode cL_law 1462 = .ok (.aload_n 0, 1) := by decide +kernel
theorem dL_law_1463 : decode cL_law 1463 = .ok (.iload 5, 2) := by decide +kernel
theorem dL_law_1465 : decode cL_law 1465 = .ok (.iconst 1, 1) := by decide +kernel
theorem dL_law_1466 : decode cL_law 1466 = .ok (.iadd, 1) := by decide +kernel
theorem dL_law_1467 : decode cL_law 1467 = .ok (.iaload, 1) := by decide +kernel
theorem dL_law_1468 : decode cL_law 1468 = .ok (.aload_n 0, 1) := by decide +kernel
theorem dL_law_1469 : decode cL_law 1469 = .ok (.iload 5, 2) := by decide +kernel
theorem dL_law_1471 : decode cL_law 1471 = .ok (.iconst 2, 1) := by decide +kernel
theorem dL_law_1472 : decode cL_law 1472 = .ok (.iadd, 1) := by decide +kernel
theorem dL_law_1473 : decode cL_law 1473 = .ok (.iaload, 1) := by decide +kernel
theorem dL_law_1474 : decode cL_law 1474 = .ok (.invokevirtual 217, 3) := by decide +kernel
theorem dL_law_1477 : decode cL_law 1477 = .ok (.istore 7, 2) := by decide +kernel
theorem dL_law_1479 : decode cL_law 1479 = .ok (.aload_n 2, 1) := by decide +kernel
theorem dL_law_1480 : decode cL_law 1480 = .ok (.invokevirtual 151, 3) := by decide +kernel
theorem dL_law_1483 : decode cL_law 1483 = .ok (.iload 6, 2) := by decide +kernel
theorem dL_law_1485 : decode cL_law 1485 = .ok (.if_icmp .eq 5, 3) := by decide +kernel
theorem dL_law_1488 : decode cL_law 1488 = .ok (.iconst 0, 1) := by decide +kernel
theorem dL_law_1489 : decode cL_law 1489 = .ok (.ireturn, 1) := by decide +kernel
theorem dL_law_1490 : decode cL_law 1490 = .ok (.iload 6, 2) := by decide +kernel
theorem dL_law_1492 : decode cL_law 1492 = .ok (.ifCond .ne 15, 3) := by decide +kernel
theorem dL_law_1495 : decode cL_law 1495 = .ok (.aload_n 3, 1) := by decide +kernel
theorem dL_law_1496 : decode cL_law 1496 = .ok (.iconst 0, 1) := by decide +kernel
theorem dL_law_1497 : decode cL_law 1497 = .ok (.laload, 1) := by decide +kernel
theorem dL_law_1498 : decode cL_law 1498 = .ok (.iload 7, 2) := by decide +kernel
theorem dL_law_1500 : decode cL_law 1500 = .ok (.i2l, 1) := by decide +kernel
theorem dL_law_1501 : decode cL_law 1501 = .ok (.lcmp, 1) := by decide +kernel
theorem dL_law_1502 : decode cL_law 1502 = .ok (.ifCond .eq 5, 3) := by decide +kernel
theorem dL_law_1505 : decode cL_law 1505 = .ok (.iconst 0, 1) := by decide +kernel
theorem dL_law_1506 : decode cL_law 1506 = .ok (.ireturn, 1) := by decide +kernel
theorem dL_law_1507 : decode cL_law 1507 = .ok (.goto 913, 3) := by decide +kernel
theorem dL_law_1510 : decode cL_law 1510 = .ok (.aload_n 1, 1) := by decide +kernel
theorem dL_law_1511 : decode cL_law 1511 = .ok (.aload_n 0, 1) := by decide +kernel
theorem dL_law_1512 : decode cL_law 1512 = .ok (.iload 5, 2) := by decide +kernel
theorem dL_law_1514 : decode cL_law 1514 = .ok (.iconst 1, 1) := by decide +kernel
theorem dL_law_1515 : decode cL_law 1515 = .ok (.iadd, 1) := by decide +kernel
theorem dL_law_1516 : decode cL_law 1516 = .ok (.iaload, 1) := by decide +kernel
theorem dL_law_1517 : decode cL_law 1517 = .ok (.aload_n 3, 1) := by decide +kernel
theorem dL_law_1518 : decode cL_law 1518 = .ok (.invokestatic 218, 3) := by decide +kernel
theorem dL_law_1521 : decode cL_law 1521 = .ok (.istore 6, 2) := by decide +kernel
theorem dL_law_1523 : decode cL_law 1523 = .ok (.aload_n 2, 1) := by decide +kernel
theorem dL_law_1524 : decode cL_law 1524 = .ok (.aload_n 0, 1) := by decide +kernel
theorem dL_law_1525 : decode cL_law 1525 = .ok (.iload 5, 2) := by decide +kernel
theorem dL_law_1527 : decode cL_law 1527 = .ok (.iconst 1, 1) := by decide +kernel
theorem dL_law_1528 : decode cL_law 1528 = .ok (.iadd, 1) := by decide +kernel
theorem dL_law_1529 : decode cL_law 1529 = .ok (.iaload, 1) := by decide +kernel
theorem dL_law_1530 : decode cL_law 1530 = .ok (.invokevirtual 220, 3) := by decide +kernel
theorem dL_law_1533 : decode cL_law 1533 = .ok (.istore 7, 2) := by decide +kernel
theorem dL_law_1535 : decode cL_law 1535 = .ok (.aload_n 2, 1) := by decide +kernel
theorem dL_law_1536 : decode cL_law 1536 = .ok (.invokevirtual 151, 3) := by decide +kernel
theorem dL_law_1539 : decode cL_law 1539 = .ok (.iload 6, 2) := by decide +kernel
theorem dL_law_1541 : decode cL_law 1541 = .ok (.if_icmp .eq 5, 3) := by decide +kernel
theorem dL_law_1544 : decode cL_law 1544 = .ok (.iconst 0, 1) := by decide +kernel
theorem dL_law_1545 : decode cL_law 1545 = .ok (.ireturn, 1) := by decide +kernel
theorem dL_law_1546 : decode cL_law 1546 = .ok (.iload 6, 2) := by decide +kernel
theorem dL_law_1548 : decode cL_law 1548 = .ok (.ifCond .ne 15, 3) := by decide +kernel
theorem dL_law_1551 : decode cL_law 1551 = .ok (.aload_n 3, 1) := by decide +kernel
theorem dL_law_1552 : decode cL_law 1552 = .ok (.iconst 0, 1) := by decide +kernel
theorem dL_law_1553 : decode cL_law 1553 = .ok (.laload, 1) := by decide +kernel
theorem dL_law_1554 : decode cL_law 1554 = .ok (.iload 7, 2) := by decide +kernel
theorem dL_law_1556 : decode cL_law 1556 = .ok (.i2l, 1) := by decide +kernel
theorem dL_law_1557 : decode cL_law 1557 = .ok (.lcmp, 1) := by decide +kernel
theorem dL_law_1558 : decode cL_law 1558 = .ok (.ifCond .eq 5, 3) := by decide +kernel
theorem dL_law_1561 : decode cL_law 1561 = .ok (.iconst 0, 1) := by decide +kernel
theorem dL_law_1562 : decode cL_law 1562 = .ok (.ireturn, 1) := by decide +kernel
theorem dL_law_1563 : decode cL_law 1563 = .ok (.goto 857, 3) := by decide +kernel
theorem dL_law_1566 : decode cL_law 1566 = .ok (.aload_n 1, 1) := by decide +kernel
theorem dL_law_1567 : decode cL_law 1567 = .ok (.aload_n 0, 1) := by decide +kernel
theorem dL_law_1568 : decode cL_law 1568 = .ok (.iload 5, 2) := by decide +kernel
theorem dL_law_1570 : decode cL_law 1570 = .ok (.iconst 1, 1) := by decide +kernel
theorem dL_law_1571 : decode cL_law 1571 = .ok (.iadd, 1) := by decide +kernel
theorem dL_law_1572 : decode cL_law 1572 = .ok (.iaload, 1) := by decide +kernel
theorem dL_law_1573 : decode cL_law 1573 = .ok (.aload_n 3, 1) := by decide +kernel
theorem dL_law_1574 : decode cL_law 1574 = .ok (.invokestatic 221, 3) := by decide +kernel
theorem dL_law_1577 : decode cL_law 1577 = .ok (.istore 6, 2) := by decide +kernel
theorem dL_law_1579 : decode cL_law 1579 = .ok (.aload_n 2, 1) := by decide +kernel
theorem dL_law_1580 : decode cL_law 1580 = .ok (.aload_n 0, 1) := by decide +kernel
theorem dL_law_1581 : decode cL_law 1581 = .ok (.iload 5, 2) := by decide +kernel
theorem dL_law_1583 : decode cL_law 1583 = .ok (.iconst 1, 1) := by decide +kernel
theorem dL_law_1584 : decode cL_law 1584 = .ok (.iadd, 1) := by decide +kernel
theorem dL_law_1585 : decode cL_law 1585 = .ok (.iaload, 1) := by decide +kernel
theorem dL_law_1586 : decode cL_law 1586 = .ok (.invokevirtual 223, 3) := by decide +kernel
theorem dL_law_1589 : decode cL_law 1589 = .ok (.istore 7, 2) := by decide +kernel
theorem dL_law_1591 : decode cL_law 1591 = .ok (.aload_n 2, 1) := by decide +kernel
theorem dL_law_1592 : decode cL_law 1592 = .ok (.invokevirtual 151, 3) := by decide +kernel
theorem dL_law_1595 : decode cL_law 1595 = .ok (.iload 6, 2) := by decide +kernel
theorem dL_law_1597 : decode cL_law 1597 = .ok (.if_icmp .eq 5, 3) := by decide +kernel
theorem dL_law_1600 : decode cL_law 1600 = .ok (.iconst 0, 1) := by decide +kernel
theorem dL_law_1601 : decode cL_law 1601 = .ok (.ireturn, 1) := by decide +kernel
theorem dL_law_1602 : decode cL_law 1602 = .ok (.iload 6, 2) := by decide +kernel
theorem dL_law_1604 : decode cL_law 1604 = .ok (.ifCond .ne 15, 3) := by decide +kernel
theorem dL_law_1607 : decode cL_law 1607 = .ok (.aload_n 3, 1) := by decide +kernel
theorem dL_law_1608 : decode cL_law 1608 = .ok (.iconst 0, 1) := by decide +kernel
theorem dL_law_1609 : decode cL_law 1609 = .ok (.laload, 1) := by decide +kernel
theorem dL_law_1610 : decode cL_law 1610 = .ok (.iload 7, 2) := by decide +kernel
theorem dL_law_1612 : decode cL_law 1612 = .ok (.i2l, 1) := by decide +kernel
theorem dL_law_1613 : decode cL_law 1613 = .ok (.lcmp, 1) := by decide +kernel
theorem dL_law_1614 : decode cL_law 1614 = .ok (.ifCond .eq 5, 3) := by decide +kernel
theorem dL_law_1617 : decode cL_law 1617 = .ok (.iconst 0, 1) := by decide +kernel
theorem dL_law_1618 : decode cL_law 1618 = .ok (.ireturn, 1) := by decide +kernel
theorem dL_law_1619 : decode cL_law 1619 = .ok (.goto 801, 3) := by decide +kernel
theorem dL_law_1622 : decode cL_law 1622 = .ok (.aload_n 1, 1) := by decide +kernel
theorem dL_law_1623 : decode cL_law 1623 = .ok (.aload_n 3, 1) := by decide +kernel
theorem dL_law_1624 : decode cL_law 1624 = .ok (.invokestatic 224, 3) := by decide +kernel
theorem dL_law_1627 : decode cL_law 1627 = .ok (.istore 6, 2) := by decide +kernel
theorem dL_law_1629 : decode cL_law 1629 = .ok (.aload_n 2, 1) := by decide +kernel
theorem dL_law_1630 : decode cL_law 1630 = .ok (.invokevirtual 226, 3) := by decide +kernel
theorem dL_law_1633 : decode cL_law 1633 = .ok (.istore 7, 2) := by decide +kernel
theorem dL_law_1635 : decode cL_law 1635 = .ok (.aload_n 2, 1) := by decide +kernel
theorem dL_law_1636 : decode cL_law 1636 = .ok (.invokevirtual 151, 3) := by decide +kernel
theorem dL_law_1639 : decode cL_law 1639 = .ok (.iload 6, 2) := by decide +kernel
theorem dL_law_1641 : decode cL_law 1641 = .ok (.if_icmp .eq 5, 3) := by decide +kernel
theorem dL_law_1644 : decode cL_law 1644 = .ok (.iconst 0, 1) := by decide +kernel
theorem dL_law_1645 : decode cL_law 1645 = .ok (.ireturn, 1) := by decide +kernel
theorem dL_law_1646 : decode cL_law 1646 = .ok (.iload 6, 2) := by decide +kernel
theorem dL_law_1648 : decode cL_law 1648 = .ok (.ifCond .ne 15, 3) := by decide +kernel
theorem dL_law_1651 : decode cL_law 1651 = .ok (.aload_n 3, 1) := by decide +kernel
theorem dL_law_1652 : decode cL_law 1652 = .ok (.iconst 0, 1) := by decide +kernel
theorem dL_law_1653 : decode cL_law 1653 = .ok (.laload, 1) := by decide +kernel
theorem dL_law_1654 : decode cL_law 1654 = .ok (.iload 7, 2) := by decide +kernel
theorem dL_law_1656 : decode cL_law 1656 = .ok (.i2l, 1) := by decide +kernel
theorem dL_law_1657 : decode cL_law 1657 = .ok (.lcmp, 1) := by decide +kernel
theorem dL_law_1658 : decode cL_law 1658 = .ok (.ifCond .eq 5, 3) := by decide +kernel
theorem dL_law_1661 : decode cL_law 1661 = .ok (.iconst 0, 1) := by decide +kernel
theorem dL_law_1662 : decode cL_law 1662 = .ok (.ireturn, 1) := by decide +kernel
theorem dL_law_1663 : decode cL_law 1663 = .ok (.goto 757, 3) := by decide +kernel
theorem dL_law_1666 : decode cL_law 1666 = .ok (.aload_n 1, 1) := by decide +kernel
theorem dL_law_1667 : decode cL_law 1667 = .ok (.aload_n 0, 1) := by decide +kernel
theorem dL_law_1668 : decode cL_law 1668 = .ok (.iload 5, 2) := by decide +kernel
theorem dL_law_1670 : decode cL_law 1670 = .ok (.iconst 1, 1) := by decide +kernel
theorem dL_law_1671 : decode cL_law 1671 = .ok (.iadd, 1) := by decide +kernel
theorem dL_law_1672 : decode cL_law 1672 = .ok (.iaload, 1) := by decide +kernel
theorem dL_law_1673 : decode cL_law 1673 = .ok (.aload_n 0, 1) := by decide +kernel
theorem dL_law_1674 : decode cL_law 1674 = .ok (.iload 5, 2) := by decide +kernel
theorem dL_law_1676 : decode cL_law 1676 = .ok (.iconst 2, 1) := by decide +kernel
theorem dL_law_1677 : decode cL_law 1677 = .ok (.iadd, 1) := by decide +kernel
theorem dL_law_1678 : decode cL_law 1678 = .ok (.iaload, 1) := by decide +kernel
theorem dL_law_1679 : decode cL_law 1679 = .ok (.aload_n 3, 1) := by decide +kernel
theorem dL_law_1680 : decode cL_law 1680 = .ok (.invokestatic 227, 3) := by decide +kernel
theorem dL_law_1683 : decode cL_law 1683 = .ok (.istore 6, 2) := by decide +kernel
theorem dL_law_1685 : decode cL_law 1685 = .ok (.aload_n 2, 1) := by decide +kernel
theorem dL_law_1686 : decode cL_law 1686 = .ok (.aload_n 0, 1) := by decide +kernel
theorem dL_law_1687 : decode cL_law 1687 = .ok (.iload 5, 2) := by decide +kernel
theorem dL_law_1689 : decode cL_law 1689 = .ok (.iconst 1, 1) := by decide +kernel
theorem dL_law_1690 : decode cL_law 1690 = .ok (.iadd, 1) := by decide +kernel
theorem dL_law_1691 : decode cL_law 1691 = .ok (.iaload, 1) := by decide +kernel
theorem dL_law_1692 : decode cL_law 1692 = .ok (.aload_n 0, 1) := by decide +kernel
theorem dL_law_1693 : decode cL_law 1693 = .ok (.iload 5, 2) := by decide +kernel
theorem dL_law_1695 : decode cL_law 1695 = .ok (.iconst 2, 1) := by decide +kernel
theorem dL_law_1696 : decode cL_law 1696 = .ok (.iadd, 1) := by decide +kernel
theorem dL_law_1697 : decode cL_law 1697 = .ok (.iaload, 1) := by decide +kernel
theorem dL_law_1698 : decode cL_law 1698 = .ok (.invokevirtual 229, 3) := by decide +kernel
theorem dL_law_1701 : decode cL_law 1701 = .ok (.istore 7, 2) := by decide +kernel
theorem dL_law_1703 : decode cL_law 1703 = .ok (.aload_n 2, 1) := by decide +kernel
theorem dL_law_1704 : decode cL_law 1704 = .ok (.invokevirtual 151, 3) := by decide +kernel
theorem dL_law_1707 : decode cL_law 1707 = .ok (.iload 6, 2) := by decide +kernel
theorem dL_law_1709 : decode cL_law 1709 = .ok (.if_icmp .eq 5, 3) := by decide +kernel
theorem dL_law_1712 : decode cL_law 1712 = .ok (.iconst 0, 1) := by decide +kernel
theorem dL_law_1713 : decode cL_law 1713 = .ok (.ireturn, 1) := by decide +kernel
theorem dL_law_1714 : decode cL_law 1714 = .ok (.iload 6, 2) := by decide +kernel
theorem dL_law_1716 : decode cL_law 1716 = .ok (.ifCond .ne 15, 3) := by decide +kernel
theorem dL_law_1719 : decode cL_law 1719 = .ok (.aload_n 3, 1) := by decide +kernel
theorem dL_law_1720 : decode cL_law 1720 = .ok (.iconst 0, 1) := by decide +kernel
theorem dL_law_1721 : decode cL_law 1721 = .ok (.laload, 1) := by decide +kernel
theorem dL_law_1722 : decode cL_law 1722 = .ok (.iload 7, 2) := by decide +kernel
theorem dL_law_1724 : decode cL_law 1724 = .ok (.i2l, 1) := by decide +kernel
theorem dL_law_1725 : decode cL_law 1725 = .ok (.lcmp, 1) := by decide +kernel
theorem dL_law_1726 : decode cL_law 1726 = .ok (.ifCond .eq 5, 3) := by decide +kernel
theorem dL_law_1729 : decode cL_law 1729 = .ok (.iconst 0, 1) := by decide +kernel
theorem dL_law_1730 : decode cL_law 1730 = .ok (.ireturn, 1) := by decide +kernel
theorem dL_law_1731 : decode cL_law 1731 = .ok (.goto 689, 3) := by decide +kernel
theorem dL_law_1734 : decode cL_law 1734 = .ok (.aload_n 1, 1) := by decide +kernel
theorem dL_law_1735 : decode cL_law 1735 = .ok (.invokevirtual 230, 3) := by decide +kernel
theorem dL_law_1738 : decode cL_law 1738 = .ok (.aload_n 2, 1) := by decide +kernel
theorem dL_law_1739 : decode cL_law 1739 = .ok (.invokevirtual 233, 3) := by decide +kernel
theorem dL_law_1742 : decode cL_law 1742 = .ok (.if_icmp .eq 678, 3) := by decide +kernel
theorem dL_law_1745 : decode cL_law 1745 = .ok (.iconst 0, 1) := by decide +kernel
theorem dL_law_1746 : decode cL_law 1746 = .ok (.ireturn, 1) := by decide +kernel
theorem dL_law_1747 : decode cL_law 1747 = .ok (.aload_n 1, 1) := by decide +kernel
theorem dL_law_1748 : decode cL_law 1748 = .ok (.aload_n 0, 1) := by decide +kernel
theorem dL_law_1749 : decode cL_law 1749 = .ok (.iload 5, 2) := by decide +kernel
theorem dL_law_1751 : decode cL_law 1751 = .ok (.iconst 1, 1) := by decide +kernel
theorem dL_law_1752 : decode cL_law 1752 = .ok (.iadd, 1) := by decide +kernel
theorem dL_law_1753 : decode cL_law 1753 = .ok (.iaload, 1) := by decide +kernel
theorem dL_law_1754 : decode cL_law 1754 = .ok (.aload_n 0, 1) := by decide +kernel
theorem dL_law_1755 : decode cL_law 1755 = .ok (.iload 5, 2) := by decide +kernel
theorem dL_law_1757 : decode cL_law 1757 = .ok (.iconst 2, 1) := by decide +kernel
theorem dL_law_1758 : decode cL_law 1758 = .ok (.iadd, 1) := by decide +kernel
theorem dL_law_1759 : decode cL_law 1759 = .ok (.iaload, 1) := by decide +kernel
theorem dL_law_1760 : decode cL_law 1760 = .ok (.aload_n 3, 1) := by decide +kernel
theorem dL_law_1761 : decode cL_law 1761 = .ok (.invokestatic 234, 3) := by decide +kernel
theorem dL_law_1764 : decode cL_law 1764 = .ok (.istore 6, 2) := by decide +kernel
theorem dL_law_1766 : decode cL_law 1766 = .ok (.aload_n 2, 1) := by decide +kernel
theorem dL_law_1767 : decode cL_law 1767 = .ok (.aload_n 0, 1) := by decide +kernel
theorem dL_law_1768 : decode cL_law 1768 = .ok (.iload 5, 2) := by decide +kernel
theorem dL_law_1770 : decode cL_law 1770 = .ok (.iconst 1, 1) := by decide +kernel
theorem dL_law_1771 : decode cL_law 1771 = .ok (.iadd, 1) := by decide +kernel
theorem dL_law_1772 : decode cL_law 1772 = .ok (.iaload, 1) := by decide +kernel
theorem dL_law_1773 : decode cL_law 1773 = .ok (.aload_n 0, 1) := by decide +kernel
theorem dL_law_1774 : decode cL_law 1774 = .ok (.iload 5, 2) := by decide +kernel
theorem dL_law_1776 : decode cL_law 1776 = .ok (.iconst 2, 1) := by decide +kernel
theorem dL_law_1777 : decode cL_law 1777 = .ok (.iadd, 1) := by decide +kernel
theorem dL_law_1778 : decode cL_law 1778 = .ok (.iaload, 1) := by decide +kernel
theorem dL_law_1779 : decode cL_law 1779 = .ok (.invokevirtual 236, 3) := by decide +kernel
theorem dL_law_1782 : decode cL_law 1782 = .ok (.istore 7, 2) := by decide +kernel
theorem dL_law_1784 : decode cL_law 1784 = .ok (.aload_n 2, 1) := by decide +kernel
theorem dL_law_1785 : decode cL_law 1785 = .ok (.invokevirtual 151, 3) := by decide +kernel
theorem dL_law_1788 : decode cL_law 1788 = .ok (.iload 6, 2) := by decide +kernel
theorem dL_law_1790 : decode cL_law 1790 = .ok (.if_icmp .eq 5, 3) := by decide +kernel
theorem dL_law_1793 : decode cL_law 1793 = .ok (.iconst 0, 1) := by decide +kernel
theorem dL_law_1794 : decode cL_law 1794 = .ok (.ireturn, 1) := by decide +kernel
theorem dL_law_1795 : decode cL_law 1795 = .ok (.iload 6, 2) := by decide +kernel
theorem dL_law_1797 : decode cL_law 1797 = .ok (.ifCond .ne 15, 3) := by decide +kernel
theorem dL_law_1800 : decode cL_law 1800 = .ok (.aload_n 3, 1) := by decide +kernel
theorem dL_law_1801 : decode cL_law 1801 = .ok (.iconst 0, 1) := by decide +kernel
theorem dL_law_1802 : decode cL_law 1802 = .ok (.laload, 1) := by decide +kernel
theorem dL_law_1803 : decode cL_law 1803 = .ok (.iload 7, 2) := by decide +kernel
theorem dL_law_1805 : decode cL_law 1805 = .ok (.i2l, 1) := by decide +kernel
theorem dL_law_1806 : decode cL_law 1806 = .ok (.lcmp, 1) := by decide +kernel
theorem dL_law_1807 : decode cL_law 1807 = .ok (.ifCond .eq 5, 3) := by decide +kernel
theorem dL_law_1810 : decode cL_law 1810 = .ok (.iconst 0, 1) := by decide +kernel
theorem dL_law_1811 : decode cL_law 1811 = .ok (.ireturn, 1) := by decide +kernel
theorem dL_law_1812 : decode cL_law 1812 = .ok (.goto 608, 3) := by decide +kernel
theorem dL_law_1815 : decode cL_law 1815 = .ok (.aload_n 1, 1) := by decide +kernel
theorem dL_law_1816 : decode cL_law 1816 = .ok (.aload_n 0, 1) := by decide +kernel
theorem dL_law_1817 : decode cL_law 1817 = .ok (.iload 5, 2) := by decide +kernel
theorem dL_law_1819 : decode cL_law 1819 = .ok (.iconst 1, 1) := by decide +kernel
theorem dL_law_1820 : decode cL_law 1820 = .ok (.iadd, 1) := by decide +kernel
theorem dL_law_1821 : decode cL_law 1821 = .ok (.iaload, 1) := by decide +kernel
theorem dL_law_1822 : decode cL_law 1822 = .ok (.i2c, 1) := by decide +kernel
theorem dL_law_1823 : decode cL_law 1823 = .ok (.aload_n 3, 1) := by decide +kernel
theorem dL_law_1824 : decode cL_law 1824 = .ok (.invokestatic 237, 3) := by decide +kernel
theorem dL_law_1827 : decode cL_law 1827 = .ok (.istore 6, 2) := by decide +kernel
theorem dL_law_1829 : decode cL_law 1829 = .ok (.aload_n 2, 1) := by decide +kernel
theorem dL_law_1830 : decode cL_law 1830 = .ok (.aload_n 0, 1) := by decide +kernel
theorem dL_law_1831 : decode cL_law 1831 = .ok (.iload 5, 2) := by decide +kernel
theorem dL_law_1833 : decode cL_law 1833 = .ok (.iconst 1, 1) := by decide +kernel
theorem dL_law_1834 : decode cL_law 1834 = .ok (.iadd, 1) := by decide +kernel
theorem dL_law_1835 : decode cL_law 1835 = .ok (.iaload, 1) := by decide +kernel
theorem dL_law_1836 : decode cL_law 1836 = .ok (.i2c, 1) := by decide +kernel
theorem dL_law_1837 : decode cL_law 1837 = .ok (.invokevirtual 240, 3) := by decide +kernel
theorem dL_law_1840 : decode cL_law 1840 = .ok (.istore 7, 2) := by decide +kernel
theorem dL_law_1842 : decode cL_law 1842 = .ok (.aload_n 2, 1) := by decide +kernel
theorem dL_law_1843 : decode cL_law 1843 = .ok (.invokevirtual 151, 3) := by decide +kernel
theorem dL_law_1846 : decode cL_law 1846 = .ok (.iload 6, 2) := by decide +kernel
theorem dL_law_1848 : decode cL_law 1848 = .ok (.if_icmp .eq 5, 3) := by decide +kernel
theorem dL_law_1851 : decode cL_law 1851 = .ok (.iconst 0, 1) := by decide +kernel
theorem dL_law_1852 : decode cL_law 1852 = .ok (.ireturn, 1) := by decide +kernel
theorem dL_law_1853 : decode cL_law 1853 = .ok (.iload 6, 2) := by decide +kernel
theorem dL_law_1855 : decode cL_law 1855 = .ok (.ifCond .ne 15, 3) := by decide +kernel
theorem dL_law_1858 : decode cL_law 1858 = .ok (.aload_n 3, 1) := by decide +kernel
theorem dL_law_1859 : decode cL_law 1859 = .ok (.iconst 0, 1) := by decide +kernel
theorem dL_law_1860 : decode cL_law 1860 = .ok (.laload, 1) := by decide +kernel
theorem dL_law_1861 : decode cL_law 1861 = .ok (.iload 7, 2) := by decide +kernel
theorem dL_law_1863 : decode cL_law 1863 = .ok (.i2l, 1) := by decide +kernel
theorem dL_law_1864 : decode cL_law 1864 = .ok (.lcmp, 1) := by decide +kernel
theorem dL_law_1865 : decode cL_law 1865 = .ok (.ifCond .eq 5, 3) := by decide +kernel
theorem dL_law_1868 : decode cL_law 1868 = .ok (.iconst 0, 1) := by decide +kernel
theorem dL_law_1869 : decode cL_law 1869 = .ok (.ireturn, 1) := by decide +kernel
theorem dL_law_1870 : decode cL_law 1870 = .ok (.goto 550, 3) := by decide +kernel
theorem dL_law_1873 : decode cL_law 1873 = .ok (.aload_n 1, 1) := by decide +kernel
theorem dL_law_1874 : decode cL_law 1874 = .ok (.aload_n 3, 1) := by decide +kernel
theorem dL_law_1875 : decode cL_law 1875 = .ok (.invokestatic 241, 3) := by decide +kernel
theorem dL_law_1878 : decode cL_law 1878 = .ok (.istore 6, 2) := by decide +kernel
theorem dL_law_1880 : decode cL_law 1880 = .ok (.aload_n 2, 1) := by decide +kernel
theorem dL_law_1881 : decode cL_law 1881 = .ok (.invokevirtual 243, 3) := by decide +kernel
theorem dL_law_1884 : decode cL_law 1884 = .ok (.istore 7, 2) := by decide +kernel
theorem dL_law_1886 : decode cL_law 1886 = .ok (.aload_n 2, 1) := by decide +kernel
theorem dL_law_1887 : decode cL_law 1887 = .ok (.invokevirtual 151, 3) := by decide +kernel
theorem dL_law_1890 : decode cL_law 1890 = .ok (.iload 6, 2) := by decide +kernel
theorem dL_law_1892 : decode cL_law 1892 = .ok (.if_icmp .eq 5, 3) := by decide +kernel
theorem dL_law_1895 : decode cL_law 1895 = .ok (.iconst 0, 1) := by decide +kernel
theorem dL_law_1896 : decode cL_law 1896 = .ok (.ireturn, 1) := by decide +kernel
theorem dL_law_1897 : decode cL_law 1897 = .ok (.iload 6, 2) := by decide +kernel
theorem dL_law_1899 : decode cL_law 1899 = .ok (.ifCond .ne 15, 3) := by decide +kernel
theorem dL_law_1902 : decode cL_law 1902 = .ok (.aload_n 3, 1) := by decide +kernel
theorem dL_law_1903 : decode cL_law 1903 = .ok (.iconst 0, 1) := by decide +kernel
theorem dL_law_1904 : decode cL_law 1904 = .ok (.laload, 1) := by decide +kernel
theorem dL_law_1905 : decode cL_law 1905 = .ok (.iload 7, 2) := by decide +kernel
theorem dL_law_1907 : decode cL_law 1907 = .ok (.i2l, 1) := by decide +kernel
theorem dL_law_1908 : decode cL_law 1908 = .ok (.lcmp, 1) := by decide +kernel
theorem dL_law_1909 : decode cL_law 1909 = .ok (.ifCond .eq 5, 3) := by decide +kernel
theorem dL_law_1912 : decode cL_law 1912 = .ok (.iconst 0, 1) := by decide +kernel
theorem dL_law_1913 : decode cL_law 1913 = .ok (.ireturn, 1) := by decide +kernel
theorem dL_law_1914 : decode cL_law 1914 = .ok (.goto 506, 3) := by decide +kernel
theorem dL_law_1917 : decode cL_law 1917 = .ok (.aload_n 1, 1) := by decide +kernel
theorem dL_law_1918 : decode cL_law 1918 = .ok (.invokevirtual 244, 3) := by decide +kernel
theorem dL_law_1921 : decode cL_law 1921 = .ok (.aload_n 2, 1) := by decide +kernel
theorem dL_law_1922 : decode cL_law 1922 = .ok (.invokevirtual 247, 3) := by decide +kernel
theorem dL_law_1925 : decode cL_law 1925 = .ok (.if_icmp .eq 495, 3) := by decide +kernel
theorem dL_law_1928 : decode cL_law 1928 = .ok (.iconst 0, 1) := by decide +kernel
theorem dL_law_1929 : decode cL_law 1929 = .ok (.ireturn, 1) := by decide +kernel
theorem dL_law_1930 : decode cL_law 1930 = .ok (.aload_n 1, 1) := by decide +kernel
theorem dL_law_1931 : decode cL_law 1931 = .ok (.aload_n 0, 1) := by decide +kernel
theorem dL_law_1932 : decode cL_law 1932 = .ok (.iload 5, 2) := by decide +kernel
theorem dL_law_1934 : decode cL_law 1934 = .ok (.iconst 1, 1) := by decide +kernel
theorem dL_law_1935 : decode cL_law 1935 = .ok (.iadd, 1) := by decide +kernel
theorem dL_law_1936 : decode cL_law 1936 = .ok (.iaload, 1) := by decide +kernel
theorem dL_law_1937 : decode cL_law 1937 = .ok (.aload_n 3, 1) := by decide +kernel
theorem dL_law_1938 : decode cL_law 1938 = .ok (.invokestatic 248, 3) := by decide +kernel
theorem dL_law_1941 : decode cL_law 1941 = .ok (.istore 6, 2) := by decide +kernel
theorem dL_law_1943 : decode cL_law 1943 = .ok (.aload_n 2, 1) := by decide +kernel
theorem dL_law_1944 : decode cL_law 1944 = .ok (.aload_n 0, 1) := by decide +kernel
theorem dL_law_1945 : decode cL_law 1945 = .ok (.iload 5, 2) := by decide +kernel
theorem dL_law_1947 : decode cL_law 1947 = .ok (.iconst 1, 1) := by decide +kernel
theorem dL_law_1948 : decode cL_law 1948 = .ok (.iadd, 1) := by decide +kernel
theorem dL_law_1949 : decode cL_law 1949 = .ok (.iaload, 1) := by decide +kernel
theorem dL_law_1950 : decode cL_law 1950 = .ok (.invokevirtual 250, 3) := by decide +kernel
theorem dL_law_1953 : decode cL_law 1953 = .ok (.istore 7, 2) := by decide +kernel
theorem dL_law_1955 : decode cL_law 1955 = .ok (.aload_n 2, 1) := by decide +kernel
theorem dL_law_1956 : decode cL_law 1956 = .ok (.invokevirtual 151, 3) := by decide +kernel
theorem dL_law_1959 : decode cL_law 1959 = .ok (.iload 6, 2) := by decide +kernel
theorem dL_law_1961 : decode cL_law 1961 = .ok (.if_icmp .eq 5, 3) := by decide +kernel
theorem dL_law_1964 : decode cL_law 1964 = .ok (.iconst 0, 1) := by decide +kernel
theorem dL_law_1965 : decode cL_law 1965 = .ok (.ireturn, 1) := by decide +kernel
theorem dL_law_1966 : decode cL_law 1966 = .ok (.iload 6, 2) := by decide +kernel
theorem dL_law_1968 : decode cL_law 1968 = .ok (.ifCond .ne 15, 3) := by decide +kernel
theorem dL_law_1971 : decode cL_law 1971 = .ok (.aload_n 3, 1) := by decide +kernel
theorem dL_law_1972 : decode cL_law 1972 = .ok (.iconst 0, 1) := by decide +kernel
theorem dL_law_1973 : decode cL_law 1973 = .ok (.laload, 1) := by decide +kernel
theorem dL_law_1974 : decode cL_law 1974 = .ok (.iload 7, 2) := by decide +kernel
theorem dL_law_1976 : decode cL_law 1976 = .ok (.i2l, 1) := by decide +kernel
theorem dL_law_1977 : decode cL_law 1977 = .ok (.lcmp, 1) := by decide +kernel
theorem dL_law_1978 : decode cL_law 1978 = .ok (.ifCond .eq 5, 3) := by decide +kernel
theorem dL_law_1981 : decode cL_law 1981 = .ok (.iconst 0, 1) := by decide +kernel
theorem dL_law_1982 : decode cL_law 1982 = .ok (.ireturn, 1) := by decide +kernel
theorem dL_law_1983 : decode cL_law 1983 = .ok (.goto 437, 3) := by decide +kernel
theorem dL_law_1986 : decode cL_law 1986 = .ok (.aload_n 1, 1) := by decide +kernel
theorem dL_law_1987 : decode cL_law 1987 = .ok (.aload_n 0, 1) := by decide +kernel
theorem dL_law_1988 : decode cL_law 1988 = .ok (.iload 5, 2) := by decide +kernel
theorem dL_law_1990 : decode cL_law 1990 = .ok (.iconst 1, 1) := by decide +kernel
theorem dL_law_1991 : decode cL_law 1991 = .ok (.iadd, 1) := by decide +kernel
theorem dL_law_1992 : decode cL_law 1992 = .ok (.iaload, 1) := by decide +kernel
theorem dL_law_1993 : decode cL_law 1993 = .ok (.aload_n 3, 1) := by decide +kernel
theorem dL_law_1994 : decode cL_law 1994 = .ok (.invokestatic 251, 3) := by decide +kernel
theorem dL_law_1997 : decode cL_law 1997 = .ok (.istore 6, 2) := by decide +kernel
theorem dL_law_1999 : decode cL_law 1999 = .ok (.aload_n 2, 1) := by decide +kernel
theorem dL_law_2000 : decode cL_law 2000 = .ok (.aload_n 0, 1) := by decide +kernel
theorem dL_law_2001 : decode cL_law 2001 = .ok (.iload 5, 2) := by decide +kernel
theorem dL_law_2003 : decode cL_law 2003 = .ok (.iconst 1, 1) := by decide +kernel
theorem dL_law_2004 : decode cL_law 2004 = .ok (.iadd, 1) := by decide +kernel
theorem dL_law_2005 : decode cL_law 2005 = .ok (.iaload, 1) := by decide +kernel
theorem dL_law_2006 : decode cL_law 2006 = .ok (.invokevirtual 253, 3) := by decide +kernel
theorem dL_law_2009 : decode cL_law 2009 = .ok (.istore 7, 2) := by decide +kernel
theorem dL_law_2011 : decode cL_law 2011 = .ok (.aload_n 2, 1) := by decide +kernel
theorem dL_law_2012 : decode cL_law 2012 = .ok (.invokevirtual 151, 3) := by decide +kernel
theorem dL_law_2015 : decode cL_law 2015 = .ok (.iload 6, 2) := by decide +kernel
theorem dL_law_2017 : decode cL_law 2017 = .ok (.if_icmp .eq 5, 3) := by decide +kernel
theorem dL_law_2020 : decode cL_law 2020 = .ok (.iconst 0, 1) := by decide +kernel
theorem dL_law_2021 : decode cL_law 2021 = .ok (.ireturn, 1) := by decide +kernel
theorem dL_law_2022 : decode cL_law 2022 = .ok (.iload 6, 2) := by decide +kernel
theorem dL_law_2024 : decode cL_law 2024 = .ok (.ifCond .ne 15, 3) := by decide +kernel
theorem dL_law_2027 : decode cL_law 2027 = .ok (.aload_n 3, 1) := by decide +kernel
theorem dL_law_2028 : decode cL_law 2028 = .ok (.iconst 0, 1) := by decide +kernel
theorem dL_law_2029 : decode cL_law 2029 = .ok (.laload, 1) := by decide +kernel
theorem dL_law_2030 : decode cL_law 2030 = .ok (.iload 7, 2) := by decide +kernel
theorem dL_law_2032 : decode cL_law 2032 = .ok (.i2l, 1) := by decide +kernel
theorem dL_law_2033 : decode cL_law 2033 = .ok (.lcmp, 1) := by decide +kernel
theorem dL_law_2034 : decode cL_law 2034 = .ok (.ifCond .eq 5, 3) := by decide +kernel
theorem dL_law_2037 : decode cL_law 2037 = .ok (.iconst 0, 1) := by decide +kernel
theorem dL_law_2038 : decode cL_law 2038 = .ok (.ireturn, 1) := by decide +kernel
theorem dL_law_2039 : decode cL_law 2039 = .ok (.goto 381, 3) := by decide +kernel
theorem dL_law_2042 : decode cL_law 2042 = .ok (.aload_n 1, 1) := by decide +kernel
theorem dL_law_2043 : decode cL_law 2043 = .ok (.aload_n 0, 1) := by decide +kernel
theorem dL_law_2044 : decode cL_law 2044 = .ok (.iload 5, 2) := by decide +kernel
theorem dL_law_2046 : decode cL_law 2046 = .ok (.iconst 1, 1) := by decide +kernel
theorem dL_law_2047 : decode cL_law 2047 = .ok (.iadd, 1) := by decide +kernel
theorem dL_law_2048 : decode cL_law 2048 = .ok (.iaload, 1) := by decide +kernel
theorem dL_law_2049 : decode cL_law 2049 = .ok (.aload_n 3, 1) := by decide +kernel
theorem dL_law_2050 : decode cL_law 2050 = .ok (.invokestatic 254, 3) := by decide +kernel
theorem dL_law_2053 : decode cL_law 2053 = .ok (.istore 6, 2) := by decide +kernel
theorem dL_law_2055 : decode cL_law 2055 = .ok (.aload_n 2, 1) := by decide +kernel
theorem dL_law_2056 : decode cL_law 2056 = .ok (.aload_n 0, 1) := by decide +kernel
theorem dL_law_2057 : decode cL_law 2057 = .ok (.iload 5, 2) := by decide +kernel
theorem dL_law_2059 : decode cL_law 2059 = .ok (.iconst 1, 1) := by decide +kernel
theorem dL_law_2060 : decode cL_law 2060 = .ok (.iadd, 1) := by decide +kernel
theorem dL_law_2061 : decode cL_law 2061 = .ok (.iaload, 1) := by decide +kernel
theorem dL_law_2062 : decode cL_law 2062 = .ok (.invokevirtual 256, 3) := by decide +kernel
theorem dL_law_2065 : decode cL_law 2065 = .ok (.istore 7, 2) := by decide +kernel
theorem dL_law_2067 : decode cL_law 2067 = .ok (.aload_n 2, 1) := by decide +kernel
theorem dL_law_2068 : decode cL_law 2068 = .ok (.invokevirtual 151, 3) := by decide +kernel
theorem dL_law_2071 : decode cL_law 2071 = .ok (.iload 6, 2) := by decide +kernel
theorem dL_law_2073 : decode cL_law 2073 = .ok (.if_icmp .eq 5, 3) := by decide +kernel
theorem dL_law_2076 : decode cL_law 2076 = .ok (.iconst 0, 1) := by decide +kernel
theorem dL_law_2077 : decode cL_law 2077 = .ok (.ireturn, 1) := by decide +kernel
theorem dL_law_2078 : decode cL_law 2078 = .ok (.iload 6, 2) := by decide +kernel
theorem dL_law_2080 : decode cL_law 2080 = .ok (.ifCond .ne 15, 3) := by decide +kernel
theorem dL_law_2083 : decode cL_law 2083 = .ok (.aload_n 3, 1) := by decide +kernel
theorem dL_law_2084 : decode cL_law 2084 = .ok (.iconst 0, 1) := by decide +kernel
theorem dL_law_2085 : decode cL_law 2085 = .ok (.laload, 1) := by decide +kernel
theorem dL_law_2086 : decode cL_law 2086 = .ok (.iload 7, 2) := by decide +kernel
theorem dL_law_2088 : decode cL_law 2088 = .ok (.i2l, 1) := by decide +kernel
theorem dL_law_2089 : decode cL_law 2089 = .ok (.lcmp, 1) := by decide +kernel
theorem dL_law_2090 : decode cL_law 2090 = .ok (.ifCond .eq 5, 3) := by decide +kernel
theorem dL_law_2093 : decode cL_law 2093 = .ok (.iconst 0, 1) := by decide +kernel
theorem dL_law_2094 : decode cL_law 2094 = .ok (.ireturn, 1) := by decide +kernel
theorem dL_law_2095 : decode cL_law 2095 = .ok (.goto 325, 3) := by decide +kernel
theorem dL_law_2098 : decode cL_law 2098 = .ok (.aload_n 1, 1) := by decide +kernel
theorem dL_law_2099 : decode cL_law 2099 = .ok (.aload_n 0, 1) := by decide +kernel
theorem dL_law_2100 : decode cL_law 2100 = .ok (.iload 5, 2) := by decide +kernel
theorem dL_law_2102 : decode cL_law 2102 = .ok (.iconst 1, 1) := by decide +kernel
theorem dL_law_2103 : decode cL_law 2103 = .ok (.iadd, 1) := by decide +kernel
theorem dL_law_2104 : decode cL_law 2104 = .ok (.iaload, 1) := by decide +kernel
theorem dL_law_2105 : decode cL_law 2105 = .ok (.aload_n 3, 1) := by decide +kernel
theorem dL_law_2106 : decode cL_law 2106 = .ok (.invokestatic 257, 3) := by decide +kernel
theorem dL_law_2109 : decode cL_law 2109 = .ok (.istore 6, 2) := by decide +kernel
theorem dL_law_2111 : decode cL_law 2111 = .ok (.aload_n 2, 1) := by decide +kernel
theorem dL_law_2112 : decode cL_law 2112 = .ok (.aload_n 0, 1) := by decide +kernel
theorem dL_law_2113 : decode cL_law 2113 = .ok (.iload 5, 2) := by decide +kernel
theorem dL_law_2115 : decode cL_law 2115 = .ok (.iconst 1, 1) := by decide +kernel
theorem dL_law_2116 : decode cL_law 2116 = .ok (.iadd, 1) := by decide +kernel
theorem dL_law_2117 : decode cL_law 2117 = .ok (.iaload, 1) := by decide +kernel
theorem dL_law_2118 : decode cL_law 2118 = .ok (.invokevirtual 259, 3) := by decide +kernel
theorem dL_law_2121 : decode cL_law 2121 = .ok (.istore 7, 2) := by decide +kernel
theorem dL_law_2123 : decode cL_law 2123 = .ok (.aload_n 2, 1) := by decide +kernel
theorem dL_law_2124 : decode cL_law 2124 = .ok (.invokevirtual 151, 3) := by decide +kernel
theorem dL_law_2127 : decode cL_law 2127 = .ok (.iload 6, 2) := by decide +kernel
theorem dL_law_2129 : decode cL_law 2129 = .ok (.if_icmp .eq 5, 3) := by decide +kernel
theorem dL_law_2132 : decode cL_law 2132 = .ok (.iconst 0, 1) := by decide +kernel
theorem dL_law_2133 : decode cL_law 2133 = .ok (.ireturn, 1) := by decide +kernel
theorem dL_law_2134 : decode cL_law 2134 = .ok (.iload 6, 2) := by decide +kernel
theorem dL_law_2136 : decode cL_law 2136 = .ok (.ifCond .ne 15, 3) := by decide +kernel
theorem dL_law_2139 : decode cL_law 2139 = .ok (.aload_n 3, 1) := by decide +kernel
theorem dL_law_2140 : decode cL_law 2140 = .ok (.iconst 0, 1) := by decide +kernel
theorem dL_law_2141 : decode cL_law 2141 = .ok (.laload, 1) := by decide +kernel
theorem dL_law_2142 : decode cL_law 2142 = .ok (.iload 7, 2) := by decide +kernel
theorem dL_law_2144 : decode cL_law 2144 = .ok (.i2l, 1) := by decide +kernel
theorem dL_law_2145 : decode cL_law 2145 = .ok (.lcmp, 1) := by decide +kernel
theorem dL_law_2146 : decode cL_law 2146 = .ok (.ifCond .eq 5, 3) := by decide +kernel
theorem dL_law_2149 : decode cL_law 2149 = .ok (.iconst 0, 1) := by decide +kernel
theorem dL_law_2150 : decode cL_law 2150 = .ok (.ireturn, 1) := by decide +kernel
theorem dL_law_2151 : decode cL_law 2151 = .ok (.goto 269, 3) := by decide +kernel
theorem dL_law_2154 : decode cL_law 2154 = .ok (.aload_n 1, 1) := by decide +kernel
theorem dL_law_2155 : decode cL_law 2155 = .ok (.aload_n 3, 1) := by decide +kernel
theorem dL_law_2156 : decode cL_law 2156 = .ok (.invokestatic 260, 3) := by decide +kernel
theorem dL_law_2159 : decode cL_law 2159 = .ok (.istore 6, 2) := by decide +kernel
theorem dL_law_2161 : decode cL_law 2161 = .ok (.aload_n 2, 1) := by decide +kernel
theorem dL_law_2162 : decode cL_law 2162 = .ok (.invokevirtual 262, 3) := by decide +kernel
theorem dL_law_2165 : decode cL_law 2165 = .ok (.istore 7, 2) := by decide +kernel
theorem dL_law_2167 : decode cL_law 2167 = .ok (.aload_n 2, 1) := by decide +kernel
theorem dL_law_2168 : decode cL_law 2168 = .ok (.invokevirtual 151, 3) := by decide +kernel
theorem dL_law_2171 : decode cL_law 2171 = .ok (.iload 6, 2) := by decide +kernel
theorem dL_law_2173 : decode cL_law 2173 = .ok (.if_icmp .eq 5, 3) := by decide +kernel
theorem dL_law_2176 : decode cL_law 2176 = .ok (.iconst 0, 1) := by decide +kernel
theorem dL_law_2177 : decode cL_law 2177 = .ok (.ireturn, 1) := by decide +kernel
theorem dL_law_2178 : decode cL_law 2178 = .ok (.iload 6, 2) := by decide +kernel
theorem dL_law_2180 : decode cL_law 2180 = .ok (.ifCond .ne 15, 3) := by decide +kernel
theorem dL_law_2183 : decode cL_law 2183 = .ok (.aload_n 3, 1) := by decide +kernel
theorem dL_law_2184 : decode cL_law 2184 = .ok (.iconst 0, 1) := by decide +kernel
theorem dL_law_2185 : decode cL_law 2185 = .ok (.laload, 1) := by decide +kernel
theorem dL_law_2186 : decode cL_law 2186 = .ok (.iload 7, 2) := by decide +kernel
theorem dL_law_2188 : decode cL_law 2188 = .ok (.i2l, 1) := by decide +kernel
theorem dL_law_2189 : decode cL_law 2189 = .ok (.lcmp, 1) := by decide +kernel
theorem dL_law_2190 : decode cL_law 2190 = .ok (.ifCond .eq 5, 3) := by decide +kernel
theorem dL_law_2193 : decode cL_law 2193 = .ok (.iconst 0, 1) := by decide +kernel
theorem dL_law_2194 : decode cL_law 2194 = .ok (.ireturn, 1) := by decide +kernel
theorem dL_law_2195 : decode cL_law 2195 = .ok (.goto 225, 3) := by decide +kernel
theorem dL_law_2198 : decode cL_law 2198 = .ok (.aload_n 1, 1) := by decide +kernel
theorem dL_law_2199 : decode cL_law 2199 = .ok (.aload 4, 2) := by decide +kernel
theorem dL_law_2201 : decode cL_law 2201 = .ok (.invokestatic 263, 3) := by decide +kernel
theorem dL_law_2204 : decode cL_law 2204 = .ok (.istore 6, 2) := by decide +kernel
theorem dL_law_2206 : decode cL_law 2206 = .ok (.aload_n 2, 1) := by decide +kernel
theorem dL_law_2207 : decode cL_law 2207 = .ok (.invokevirtual 266, 3) := by decide +kernel
theorem dL_law_2210 : decode cL_law 2210 = .ok (.dstore 7, 2) := by decide +kernel
theorem dL_law_2212 : decode cL_law 2212 = .ok (.aload_n 2, 1) := by decide +kernel
theorem dL_law_2213 : decode cL_law 2213 = .ok (.invokevirtual 151, 3) := by decide +kernel
theorem dL_law_2216 : decode cL_law 2216 = .ok (.iload 6, 2) := by decide +kernel
theorem dL_law_2218 : decode cL_law 2218 = .ok (.if_icmp .eq 5, 3) := by decide +kernel
theorem dL_law_2221 : decode cL_law 2221 = .ok (.iconst 0, 1) := by decide +kernel
theorem dL_law_2222 : decode cL_law 2222 = .ok (.ireturn, 1) := by decide +kernel
theorem dL_law_2223 : decode cL_law 2223 = .ok (.iload 6, 2) := by decide +kernel
theorem dL_law_2225 : decode cL_law 2225 = .ok (.ifCond .ne 35, 3) := by decide +kernel
theorem dL_law_2228 : decode cL_law 2228 = .ok (.aload 4, 2) := by decide +kernel
theorem dL_law_2230 : decode cL_law 2230 = .ok (.iconst 0, 1) := by decide +kernel
theorem dL_law_2231 : decode cL_law 2231 = .ok (.daload, 1) := by decide +kernel
theorem dL_law_2232 : decode cL_law 2232 = .ok (.dload 7, 2) := by decide +kernel
theorem dL_law_2234 : decode cL_law 2234 = .ok (.dcmp .l, 1) := by decide +kernel
theorem dL_law_2235 : decode cL_law 2235 = .ok (.ifCond .eq 25, 3) := by decide +kernel
theorem dL_law_2238 : decode cL_law 2238 = .ok (.aload 4, 2) := by decide +kernel
theorem dL_law_2240 : decode cL_law 2240 = .ok (.iconst 0, 1) := by decide +kernel
theorem dL_law_2241 : decode cL_law 2241 = .ok (.daload, 1) := by decide +kernel
theorem dL_law_2242 : decode cL_law 2242 = .ok (.aload 4, 2) := by decide +kernel
theorem dL_law_2244 : decode cL_law 2244 = .ok (.iconst 0, 1) := by decide +kernel
theorem dL_law_2245 : decode cL_law 2245 = .ok (.daload, 1) := by decide +kernel
theorem dL_law_2246 : decode cL_law 2246 = .ok (.dcmp .l, 1) := by decide +kernel
theorem dL_law_2247 : decode cL_law 2247 = .ok (.ifCond .eq 11, 3) := by decide +kernel
theorem dL_law_2250 : decode cL_law 2250 = .ok (.dload 7, 2) := by decide +kernel
theorem dL_law_2252 : decode cL_law 2252 = .ok (.dload 7, 2) := by decide +kernel
theorem dL_law_2254 : decode cL_law 2254 = .ok (.dcmp .l, 1) := by decide +kernel
theorem dL_law_2255 : decode cL_law 2255 = .ok (.ifCond .ne 5, 3) := by decide +kernel
theorem dL_law_2258 : decode cL_law 2258 = .ok (.iconst 0, 1) := by decide +kernel
theorem dL_law_2259 : decode cL_law 2259 = .ok (.ireturn, 1) := by decide +kernel
theorem dL_law_2260 : decode cL_law 2260 = .ok (.goto 160, 3) := by decide +kernel
theorem dL_law_2263 : decode cL_law 2263 = .ok (.aload_n 1, 1) := by decide +kernel
theorem dL_law_2264 : decode cL_law 2264 = .ok (.aload_n 0, 1) := by decide +kernel
theorem dL_law_2265 : decode cL_law 2265 = .ok (.iload 5, 2) := by decide +kernel
theorem dL_law_2267 : decode cL_law 2267 = .ok (.iconst 1, 1) := by decide +kernel
theorem dL_law_2268 : decode cL_law 2268 = .ok (.iadd, 1) := by decide +kernel
theorem dL_law_2269 : decode cL_law 2269 = .ok (.iaload, 1) := by decide +kernel
theorem dL_law_2270 : decode cL_law 2270 = .ok (.aload_n 3, 1) := by decide +kernel
theorem dL_law_2271 : decode cL_law 2271 = .ok (.invokestatic 267, 3) := by decide +kernel
theorem dL_law_2274 : decode cL_law 2274 = .ok (.istore 6, 2) := by decide +kernel
theorem dL_law_2276 : decode cL_law 2276 = .ok (.aload_n 2, 1) := by decide +kernel
theorem dL_law_2277 : decode cL_law 2277 = .ok (.aload_n 0, 1) := by decide +kernel
theorem dL_law_2278 : decode cL_law 2278 = .ok (.iload 5, 2) := by decide +kernel
theorem dL_law_2280 : decode cL_law 2280 = .ok (.iconst 1, 1) := by decide +kernel
theorem dL_law_2281 : decode cL_law 2281 = .ok (.iadd, 1) := by decide +kernel
theorem dL_law_2282 : decode cL_law 2282 = .ok (.iaload, 1) := by decide +kernel
theorem dL_law_2283 : decode cL_law 2283 = .ok (.invokevirtual 269, 3) := by decide +kernel
theorem dL_law_2286 : decode cL_law 2286 = .ok (.istore 7, 2) := by decide +kernel
theorem dL_law_2288 : decode cL_law 2288 = .ok (.aload_n 2, 1) := by decide +kernel
theorem dL_law_2289 : decode cL_law 2289 = .ok (.invokevirtual 151, 3) := by decide +kernel
theorem dL_law_2292 : decode cL_law 2292 = .ok (.iload 6, 2) := by decide +kernel
theorem dL_law_2294 : decode cL_law 2294 = .ok (.if_icmp .eq 5, 3) := by decide +kernel
theorem dL_law_2297 : decode cL_law 2297 = .ok (.iconst 0, 1) := by decide +kernel
theorem dL_law_2298 : decode cL_law 2298 = .ok (.ireturn, 1) := by decide +kernel
theorem dL_law_2299 : decode cL_law 2299 = .ok (.iload 6, 2) := by decide +kernel
theorem dL_law_2301 : decode cL_law 2301 = .ok (.ifCond .ne 15, 3) := by decide +kernel
theorem dL_law_2304 : decode cL_law 2304 = .ok (.aload_n 3, 1) := by decide +kernel
theorem dL_law_2305 : decode cL_law 2305 = .ok (.iconst 0, 1) := by decide +kernel
theorem dL_law_2306 : decode cL_law 2306 = .ok (.laload, 1) := by decide +kernel
theorem dL_law_2307 : decode cL_law 2307 = .ok (.iload 7, 2) := by decide +kernel
theorem dL_law_2309 : decode cL_law 2309 = .ok (.i2l, 1) := by decide +kernel
theorem dL_law_2310 : decode cL_law 2310 = .ok (.lcmp, 1) := by decide +kernel
theorem dL_law_2311 : decode cL_law 2311 = .ok (.ifCond .eq 5, 3) := by decide +kernel
theorem dL_law_2314 : decode cL_law 2314 = .ok (.iconst 0, 1) := by decide +kernel
theorem dL_law_2315 : decode cL_law 2315 = .ok (.ireturn, 1) := by decide +kernel
theorem dL_law_2316 : decode cL_law 2316 = .ok (.goto 104, 3) := by decide +kernel
theorem dL_law_2319 : decode cL_law 2319 = .ok (.aload_n 1, 1) := by decide +kernel
theorem dL_law_2320 : decode cL_law 2320 = .ok (.aload_n 3, 1) := by decide +kernel
theorem dL_law_2321 : decode cL_law 2321 = .ok (.invokestatic 270, 3) := by decide +kernel
theorem dL_law_2324 : decode cL_law 2324 = .ok (.istore 6, 2) := by decide +kernel
theorem dL_law_2326 : decode cL_law 2326 = .ok (.aload_n 2, 1) := by decide +kernel
theorem dL_law_2327 : decode cL_law 2327 = .ok (.invokevirtual 272, 3) := by decide +kernel
theorem dL_law_2330 : decode cL_law 2330 = .ok (.istore 7, 2) := by decide +kernel
theorem dL_law_2332 : decode cL_law 2332 = .ok (.aload_n 2, 1) := by decide +kernel
theorem dL_law_2333 : decode cL_law 2333 = .ok (.invokevirtual 151, 3) := by decide +kernel
theorem dL_law_2336 : decode cL_law 2336 = .ok (.iload 6, 2) := by decide +kernel
theorem dL_law_2338 : decode cL_law 2338 = .ok (.if_icmp .eq 5, 3) := by decide +kernel
theorem dL_law_2341 : decode cL_law 2341 = .ok (.iconst 0, 1) := by decide +kernel
theorem dL_law_2342 : decode cL_law 2342 = .ok (.ireturn, 1) := by decide +kernel
theorem dL_law_2343 : decode cL_law 2343 = .ok (.iload 6, 2) := by decide +kernel
theorem dL_law_2345 : decode cL_law 2345 = .ok (.ifCond .ne 15, 3) := by decide +kernel
theorem dL_law_2348 : decode cL_law 2348 = .ok (.aload_n 3, 1) := by decide +kernel
theorem dL_law_2349 : decode cL_law 2349 = .ok (.iconst 0, 1) := by decide +kernel
theorem dL_law_2350 : decode cL_law 2350 = .ok (.laload, 1) := by decide +kernel
theorem dL_law_2351 : decode cL_law 2351 = .ok (.iload 7, 2) := by decide +kernel
theorem dL_law_2353 : decode cL_law 2353 = .ok (.i2l, 1) := by decide +kernel
theorem dL_law_2354 : decode cL_law 2354 = .ok (.lcmp, 1) := by decide +kernel
theorem dL_law_2355 : decode cL_law 2355 = .ok (.ifCond .eq 5, 3) := by decide +kernel
theorem dL_law_2358 : decode cL_law 2358 = .ok (.iconst 0, 1) := by decide +kernel
theorem dL_law_2359 : decode cL_law 2359 = .ok (.ireturn, 1) := by decide +kernel
theorem dL_law_2360 : decode cL_law 2360 = .ok (.goto 60, 3) := by decide +kernel
theorem dL_law_2363 : decode cL_law 2363 = .ok (.aload_n 1, 1) := by decide +kernel
theorem dL_law_2364 : decode cL_law 2364 = .ok (.invokevirtual 273, 3) := by decide +kernel
theorem dL_law_2367 : decode cL_law 2367 = .ok (.aload_n 2, 1) := by decide +kernel
theorem dL_law_2368 : decode cL_law 2368 = .ok (.invokevirtual 276, 3) := by decide +kernel
theorem dL_law_2371 : decode cL_law 2371 = .ok (.if_icmp .eq 49, 3) := by decide +kernel
theorem dL_law_2374 : decode cL_law 2374 = .ok (.iconst 0, 1) := by decide +kernel
theorem dL_law_2375 : decode cL_law 2375 = .ok (.ireturn, 1) := by decide +kernel
theorem dL_law_2376 : decode cL_law 2376 = .ok (.aload_n 1, 1) := by decide +kernel
theorem dL_law_2377 : decode cL_law 2377 = .ok (.aload_n 3, 1) := by decide +kernel
theorem dL_law_2378 : decode cL_law 2378 = .ok (.invokestatic 277, 3) := by decide +kernel
theorem dL_law_2381 : decode cL_law 2381 = .ok (.istore 6, 2) := by decide +kernel
theorem dL_law_2383 : decode cL_law 2383 = .ok (.aload_n 2, 1) := by decide +kernel
theorem dL_law_2384 : decode cL_law 2384 = .ok (.invokevirtual 279, 3) := by decide +kernel
theorem dL_law_2387 : decode cL_law 2387 = .ok (.istore 7, 2) := by decide +kernel
theorem dL_law_2389 : decode cL_law 2389 = .ok (.aload_n 2, 1) := by decide +kernel
theorem dL_law_2390 : decode cL_law 2390 = .ok (.invokevirtual 151, 3) := by decide +kernel
theorem dL_law_2393 : decode cL_law 2393 = .ok (.iload 6, 2) := by decide +kernel
theorem dL_law_2395 : decode cL_law 2395 = .ok (.if_icmp .eq 5, 3) := by decide +kernel
theorem dL_law_2398 : decode cL_law 2398 = .ok (.iconst 0, 1) := by decide +kernel
theorem dL_law_2399 : decode cL_law 2399 = .ok (.ireturn, 1) := by decide +kernel
theorem dL_law_2400 : decode cL_law 2400 = .ok (.iload 6, 2) := by decide +kernel
theorem dL_law_2402 : decode cL_law 2402 = .ok (.ifCond .ne 15, 3) := by decide +kernel
theorem dL_law_2405 : decode cL_law 2405 = .ok (.aload_n 3, 1) := by decide +kernel
theorem dL_law_2406 : decode cL_law 2406 = .ok (.iconst 0, 1) := by decide +kernel
theorem dL_law_2407 : decode cL_law 2407 = .ok (.laload, 1) := by decide +kernel
theorem dL_law_2408 : decode cL_law 2408 = .ok (.iload 7, 2) := by decide +kernel
theorem dL_law_2410 : decode cL_law 2410 = .ok (.i2l, 1) := by decide +kernel
theorem dL_law_2411 : decode cL_law 2411 = .ok (.lcmp, 1) := by decide +kernel
theorem dL_law_2412 : decode cL_law 2412 = .ok (.ifCond .eq 5, 3) := by decide +kernel
theorem dL_law_2415 : decode cL_law 2415 = .ok (.iconst 0, 1) := by decide +kernel
theorem dL_law_2416 : decode cL_law 2416 = .ok (.ireturn, 1) := by decide +kernel
theorem dL_law_2417 : decode cL_law 2417 = .ok (.goto 3, 3) := by decide +kernel
theorem dL_law_2420 : decode cL_law 2420 = .ok (.iinc 5 4, 3) := by decide +kernel
theorem dL_law_2423 : decode cL_law 2423 = .ok (.goto (-2395), 3) := by decide +kernel
theorem dL_law_2426 : decode cL_law 2426 = .ok (.iconst 1, 1) := by decide +kernel
theorem dL_law_2427 : decode cL_law 2427 = .ok (.ireturn, 1) := by decide +kernel
end
section
/-! worlds by virtual numbers: a heap of N cells, E a function; a reference holds the number of its cell; θ tells where it lies -/
abbrev vE : Type := (Nat × vp_A) ⊕ (Nat × List Value)
abbrev HP : Type := Nat × (Nat → vE)
def cvV (θ : Nat → Nat) (v : Value) : Value := match v with
  | .ref a => .ref (θ a)
  | .null => .null
  | .int x => .int x
  | .long x => .long x
  | .float x => .float x
  | .double x => .double x
  | x => x
def cvA (θ : Nat → Nat) (x : vp_A) : vp_A := match x with
  | (n, .inl f) => (n, .inl f)
  | (n, .inr (.inl f)) => (n, .inr (.inl f))
  | (n, .inr (.inr (.inl f))) => (n, .inr (.inr (.inl f)))
  | (n, .inr (.inr (.inr (.inl f)))) => (n, .inr (.inr (.inr (.inl f))))
  | (n, .inr (.inr (.inr (.inr f)))) => (n, .inr (.inr (.inr (.inr (fun k => (f k).map θ)))))
def cvE (θ : Nat → Nat) (dA : Nat → ClassId) (x : vE) : va_E := match x with
  | .inl (t, a) => .inl (dA t, cvA θ a)
  | .inr (c, fs) => .inr (c, fs.map (cvV θ))
def wsH (θ : Nat → Nat) (dA : Nat → ClassId) (h : HP) : va_W := (List.range h.1).map (fun a => (θ a, cvE θ dA (h.2 a)))
def tysA (dA : Nat → ClassId) : List (ClassId × FieldType) := [(dA 0, .char), (dA 1, .int), (dA 2, .object "SmokeRacks$Fish"), (dA 3, .object "SmokeRacks$House"), (dA 4, .long), (dA 5, .double)]
def CLs : List vw_C := [(RX0, TX0, 9), (RX1, TX1, 2), (RX2, TX2, 2), (RX3, TX3, 10), (RX4, TX4, 2), (RX5, TX5, 5), (RX6, TX6, 9), (RX7, TX7, 2), (RX8, TX8, 2), (RX9, TX9, 10), (RX10, TX10, 21)]
def hset (h : HP) (a : Nat) (x : vE) : HP := (h.1, fun b => if b = a then x else h.2 b)
theorem ws_at (θ : Nat → Nat) (dA : Nat → ClassId) {h : HP} {a : Nat} (ha : a < h.1) : (wsH θ dA h)[a]? = some (θ a, cvE θ dA (h.2 a)) := by
  simp [wsH, ha]
theorem ws_set (θ : Nat → Nat) (dA : Nat → ClassId) {h : HP} {a : Nat} (ha : a < h.1) (x : vE) : (wsH θ dA h).set a (θ a, cvE θ dA x) = wsH θ dA (hset h a x) := by
  apply List.ext_getElem?
  intro i
  by_cases hi : i = a
  · subst hi
    rw [List.getElem?_set_self (by simpa [wsH] using ha), ws_at θ dA (h := hset h i x) ha]
    simp [hset]
  · rw [List.getElem?_set_ne (Ne.symm hi)]
    simp only [wsH, hset, List.getElem?_map]
    by_cases hl : i < h.1
    · simp [List.getElem?_range hl, hi]
    · simp [List.getElem?_eq_none (l := List.range h.1) (by simpa using hl)]
/-- locals: nine places -/
def L9 (l0 l1 l2 l3 l4 l5 l6 l7 l8 : Option Value) : Nat → Option Value := fun i => match i with
  | 0 => l0 | 1 => l1 | 2 => l2 | 3 => l3 | 4 => l4 | 5 => l5 | 6 => l6 | 7 => l7 | 8 => l8 | _ => none
def lcl (lf : Nat → Option Value) : List (Nat × Value) := (List.range 9).filterMap (fun i => (lf i).map (fun v => (i, v)))
def lcv (θ : Nat → Nat) (lf : Nat → Option Value) : List (Nat × Value) := (lcl lf).map (fun q => (q.1, cvV θ q.2))
theorem cvV_cat (θ : Nat → Nat) (v : Value) : (cvV θ v).category = v.category := by cases v <;> rfl
theorem lcv_mem {θ : Nat → Nat} {lf : Nat → Option Value} {q : Nat × Value} : q ∈ lcv θ lf ↔ q.1 < 9 ∧ ∃ v, lf q.1 = some v ∧ q.2 = cvV θ v := by
  obtain ⟨i, x⟩ := q
  simp only [lcv, lcl, List.mem_map, List.mem_filterMap, List.mem_range]
  constructor
  · rintro ⟨⟨j, v⟩, ⟨k, hk, hm⟩, e⟩
    cases hkk : lf k with
    | none => rw [hkk] at hm; cases hm
    | some u =>
      rw [hkk] at hm
      cases hm
      cases e
      exact ⟨hk, _, hkk, rfl⟩
  · rintro ⟨hi, v, hv, e⟩
    exact ⟨(i, v), ⟨i, hi, by rw [hv]; rfl⟩, by rw [e]⟩
theorem lcv_get {θ : Nat → Nat} {lf : Nat → Option Value} {ls : Array Slot} {nL i : Nat} {v : Value} (h : lv_has ls nL (lcv θ lf)) (hi : i < 9) (hv : lf i = some v) : ls[i]? = some (.val (cvV θ v)) :=
  h.2.2 (i, cvV θ v) (lcv_mem.mpr ⟨hi, v, hv, rfl⟩)
/-- what a store into the place i leaves -/
def stO (lf : Nat → Option Value) (i : Nat) (x : Value) (lf' : Nat → Option Value) : Prop := lf' i = some x ∧ ∀ j v, j ≠ i → lf' j = some v → lf j = some v ∧ (j + 1 = i → v.category = 1)
theorem lcv_set {θ : Nat → Nat} {lf lf' : Nat → Option Value} {ls : Array Slot} {nL i : Nat} {x : Value} (hs : stO lf i x lf')
    (h : lv_has ls nL ((i, cvV θ x) :: (lcv θ lf).filter (fun q => !(q.1 == i) && !(q.1 + 1 == i && q.2.category == 2)))) : lv_has ls nL (lcv θ lf') := by
  refine ⟨h.1, h.2.1, fun q hq => h.2.2 q ?_⟩
  obtain ⟨h1, v, h2, h3⟩ := lcv_mem.mp hq
  by_cases he : q.1 = i
  · rw [he, hs.1] at h2
    cases h2
    exact List.mem_cons.mpr (Or.inl (by obtain ⟨a, b⟩ := q; dsimp only at he h3 ⊢; rw [he, h3]))
  · obtain ⟨h4, h5⟩ := hs.2 _ _ he h2
    refine List.mem_cons_of_mem _ (List.mem_filter.mpr ⟨lcv_mem.mpr ⟨h1, v, h4, h3⟩, ?_⟩)
    have h6 : ¬ (q.1 + 1 = i ∧ q.2.category = 2) := fun ⟨e1, e2⟩ => by rw [h3, cvV_cat, h5 e1] at e2; cases e2
    simp only [Bool.and_eq_true, Bool.not_eq_true', beq_eq_false_iff_ne, Bool.and_eq_false_iff, ne_eq]
    refine ⟨he, ?_⟩
    by_cases e1 : q.1 + 1 = i
    · exact Or.inr (fun e2 => h6 ⟨e1, by simpa using e2⟩)
    · exact Or.inl (by simpa using e1)
def c1 (v : Option Value) : Bool := match v with
  | some (.long _) => false
  | some (.double _) => false
  | _ => true
theorem c1_cat {v : Option Value} (h : c1 v = true) : ∀ u, v = some u → u.category = 1 := by
  intro u e
  subst e
  cases u <;> first | rfl | cases h
theorem st0 {l0 l1 l2 l3 l4 l5 l6 l7 l8 : Option Value} {x : Value} : stO (L9 l0 l1 l2 l3 l4 l5 l6 l7 l8) 0 x (L9 (some x) l1 l2 l3 l4 l5 l6 l7 l8) := by
  refine ⟨rfl, fun j v hj hv => ?_⟩
  match j, hj, hv with
  | 0, hj, _ => exact absurd rfl hj
  | 1, _, hv => exact ⟨hv, fun e => by omega⟩
  | 2, _, hv => exact ⟨hv, fun e => by omega⟩
  | 3, _, hv => exact ⟨hv, fun e => by omega⟩
  | 4, _, hv => exact ⟨hv, fun e => by omega⟩
  | 5, _, hv => exact ⟨hv, fun e => by omega⟩
  | 6, _, hv => exact ⟨hv, fun e => by omega⟩
  | 7, _, hv => exact ⟨hv, fun e => by omega⟩
  | 8, _, hv => exact ⟨hv, fun e => by omega⟩
  | _ + 9, _, hv => cases hv
theorem st1 {l0 l1 l2 l3 l4 l5 l6 l7 l8 : Option Value} {x : Value} (h : c1 l0 = true) : stO (L9 l0 l1 l2 l3 l4 l5 l6 l7 l8) 1 x (L9 l0 (some x) l2 l3 l4 l5 l6 l7 l8) := by
  refine ⟨rfl, fun j v hj hv => ?_⟩
  match j, hj, hv with
  | 0, _, hv => exact ⟨hv, fun _ => c1_cat h v hv⟩
  | 1, hj, _ => exact absurd rfl hj
  | 2, _, hv => exact ⟨hv, fun e => by omega⟩
  | 3, _, hv => exact ⟨hv, fun e => by omega⟩
  | 4, _, hv => exact ⟨hv, fun e => by omega⟩
  | 5, _, hv => exact ⟨hv, fun e => by omega⟩
  | 6, _, hv => exact ⟨hv, fun e => by omega⟩
  | 7, _, hv => exact ⟨hv, fun e => by omega⟩
  | 8, _, hv => exact ⟨hv, fun e => by omega⟩
  | _ + 9, _, hv => cases hv
theorem st2 {l0 l1 l2 l3 l4 l5 l6 l7 l8 : Option Value} {x : Value} (h : c1 l1 = true) : stO (L9 l0 l1 l2 l3 l4 l5 l6 l7 l8) 2 x (L9 l0 l1 (some x) l3 l4 l5 l6 l7 l8) := by
  refine ⟨rfl, fun j v hj hv => ?_⟩
  match j, hj, hv with
  | 0, _, hv => exact ⟨hv, fun e => by omega⟩
  | 1, _, hv => exact ⟨hv, fun _ => c1_cat h v hv⟩
  | 2, hj, _ => exact absurd rfl hj
  | 3, _, hv => exact ⟨hv, fun e => by omega⟩
  | 4, _, hv => exact ⟨hv, fun e => by omega⟩
  | 5, _, hv => exact ⟨hv, fun e => by omega⟩
  | 6, _, hv => exact ⟨hv, fun e => by omega⟩
  | 7, _, hv => exact ⟨hv, fun e => by omega⟩
  | 8, _, hv => exact ⟨hv, fun e => by omega⟩
  | _ + 9, _, hv => cases hv
theorem st3 {l0 l1 l2 l3 l4 l5 l6 l7 l8 : Option Value} {x : Value} (h : c1 l2 = true) : stO (L9 l0 l1 l2 l3 l4 l5 l6 l7 l8) 3 x (L9 l0 l1 l2 (some x) l4 l5 l6 l7 l8) := by
  refine ⟨rfl, fun j v hj hv => ?_⟩
  match j, hj, hv with
  | 0, _, hv => exact ⟨hv, fun e => by omega⟩
  | 1, _, hv => exact ⟨hv, fun e => by omega⟩
  | 2, _, hv => exact ⟨hv, fun _ => c1_cat h v hv⟩
  | 3, hj, _ => exact absurd rfl hj
  | 4, _, hv => exact ⟨hv, fun e => by omega⟩
  | 5, _, hv => exact ⟨hv, fun e => by omega⟩
  | 6, _, hv => exact ⟨hv, fun e => by omega⟩
  | 7, _, hv => exact ⟨hv, fun e => by omega⟩
  | 8, _, hv => exact ⟨hv, fun e => by omega⟩
  | _ + 9, _, hv => cases hv
theorem st4 {l0 l1 l2 l3 l4 l5 l6 l7 l8 : Option Value} {x : Value} (h : c1 l3 = true) : stO (L9 l0 l1 l2 l3 l4 l5 l6 l7 l8) 4 x (L9 l0 l1 l2 l3 (some x) l5 l6 l7 l8) := by
  refine ⟨rfl, fun j v hj hv => ?_⟩
  match j, hj, hv with
  | 0, _, hv => exact ⟨hv, fun e => by omega⟩
  | 1, _, hv => exact ⟨hv, fun e => by omega⟩
  | 2, _, hv => exact ⟨hv, fun e => by omega⟩
  | 3, _, hv => exact ⟨hv, fun _ => c1_cat h v hv⟩
  | 4, hj, _ => exact absurd rfl hj
  | 5, _, hv => exact ⟨hv, fun e => by omega⟩
  | 6, _, hv => exact ⟨hv, fun e => by omega⟩
  | 7, _, hv => exact ⟨hv, fun e => by omega⟩
  | 8, _, hv => exact ⟨hv, fun e => by omega⟩
  | _ + 9, _, hv => cases hv
theorem st5 {l0 l1 l2 l3 l4 l5 l6 l7 l8 : Option Value} {x : Value} (h : c1 l4 = true) : stO (L9 l0 l1 l2 l3 l4 l5 l6 l7 l8) 5 x (L9 l0 l1 l2 l3 l4 (some x) l6 l7 l8) := by
  refine ⟨rfl, fun j v hj hv => ?_⟩
  match j, hj, hv with
  | 0, _, hv => exact ⟨hv, fun e => by omega⟩
  | 1, _, hv => exact ⟨hv, fun e => by omega⟩
  | 2, _, hv => exact ⟨hv, fun e => by omega⟩
  | 3, _, hv => exact ⟨hv, fun e => by omega⟩
  | 4, _, hv => exact ⟨hv, fun _ => c1_cat h v hv⟩
  | 5, hj, _ => exact absurd rfl hj
  | 6, _, hv => exact ⟨hv, fun e => by omega⟩
  | 7, _, hv => exact ⟨hv, fun e => by omega⟩
  | 8, _, hv => exact ⟨hv, fun e => by omega⟩
  | _ + 9, _, hv => cases hv
theorem st6 {l0 l1 l2 l3 l4 l5 l6 l7 l8 : Option Value} {x : Value} (h : c1 l5 = true) : stO (L9 l0 l1 l2 l3 l4 l5 l6 l7 l8) 6 x (L9 l0 l1 l2 l3 l4 l5 (some x) l7 l8) := by
  refine ⟨rfl, fun j v hj hv => ?_⟩
  match j, hj, hv with
  | 0, _, hv => exact ⟨hv, fun e => by omega⟩
  | 1, _, hv => exact ⟨hv, fun e => by omega⟩
  | 2, _, hv => exact ⟨hv, fun e => by omega⟩
  | 3, _, hv => exact ⟨hv, fun e => by omega⟩
  | 4, _, hv => exact ⟨hv, fun e => by omega⟩
  | 5, _, hv => exact ⟨hv, fun _ => c1_cat h v hv⟩
  | 6, hj, _ => exact absurd rfl hj
  | 7, _, hv => exact ⟨hv, fun e => by omega⟩
  | 8, _, hv => exact ⟨hv, fun e => by omega⟩
  | _ + 9, _, hv => cases hv
theorem st7 {l0 l1 l2 l3 l4 l5 l6 l7 l8 : Option Value} {x : Value} (h : c1 l6 = true) : stO (L9 l0 l1 l2 l3 l4 l5 l6 l7 l8) 7 x (L9 l0 l1 l2 l3 l4 l5 l6 (some x) l8) := by
  refine ⟨rfl, fun j v hj hv => ?_⟩
  match j, hj, hv with
  | 0, _, hv => exact ⟨hv, fun e => by omega⟩
  | 1, _, hv => exact ⟨hv, fun e => by omega⟩
  | 2, _, hv => exact ⟨hv, fun e => by omega⟩
  | 3, _, hv => exact ⟨hv, fun e => by omega⟩
  | 4, _, hv => exact ⟨hv, fun e => by omega⟩
  | 5, _, hv => exact ⟨hv, fun e => by omega⟩
  | 6, _, hv => exact ⟨hv, fun _ => c1_cat h v hv⟩
  | 7, hj, _ => exact absurd rfl hj
  | 8, _, hv => exact ⟨hv, fun e => by omega⟩
  | _ + 9, _, hv => cases hv
theorem st8 {l0 l1 l2 l3 l4 l5 l6 l7 l8 : Option Value} {x : Value} (h : c1 l7 = true) : stO (L9 l0 l1 l2 l3 l4 l5 l6 l7 l8) 8 x (L9 l0 l1 l2 l3 l4 l5 l6 l7 (some x)) := by
  refine ⟨rfl, fun j v hj hv => ?_⟩
  match j, hj, hv with
  | 0, _, hv => exact ⟨hv, fun e => by omega⟩
  | 1, _, hv => exact ⟨hv, fun e => by omega⟩
  | 2, _, hv => exact ⟨hv, fun e => by omega⟩
  | 3, _, hv => exact ⟨hv, fun e => by omega⟩
  | 4, _, hv => exact ⟨hv, fun e => by omega⟩
  | 5, _, hv => exact ⟨hv, fun e => by omega⟩
  | 6, _, hv => exact ⟨hv, fun e => by omega⟩
  | 7, _, hv => exact ⟨hv, fun _ => c1_cat h v hv⟩
  | 8, hj, _ => exact absurd rfl hj
  | _ + 9, _, hv => cases hv
/-- the tables' words that any call passes on -/
abbrev TG : List Cond := lw_tbl.filter goodWord
theorem tg {w : Cond} (h : w ∈ lw_tbl) (g : goodWord w = true) : w ∈ TG := List.mem_filter.mpr ⟨h, g⟩
/-- the machine around a method's body -/
abbrev GT : Type := Program → Env → Room → State → MethodId → Array Value → List Frame → Method → Code → va_G → (Nat → ClassId) → (Nat → Nat) → (Nat → Prop) → (State → Prop) → Prop
def CX (l : Launch) (own : String) (cc : ByteArray) (nL d mc ms : Nat) (p : Program) (R : Room) (s : State) (m : MethodId) (args : Array Value) (c : Code) (A : Nat → Prop) : Prop :=
  p.tables.exec = Jvm.exec ∧ c.code = cc ∧ c.maxLocals = nL ∧ s.vm.findClass own = some m.cls ∧ (∀ w ∈ TG, w.before args s = true) ∧ (∀ q, s.heap.size ≤ q → A q) ∧ (d ≤ R.frames ∧ 64 * d ≤ R.locals ∧ mc ≤ R.cells ∧ ms ≤ R.slots) ∧ l.stackTraces = false ∧ vx_Zq Bundle.tN "UNASSIGNED_STACK" Bundle.steD A s s.heap ∧ vx_Zq Bundle.tN "SUPPRESSED_SENTINEL" Bundle.listD A s s.heap
def WD (D : va_G) (dA : Nat → ClassId) (θ : Nat → Nat) (A : Nat → Prop) (h : HP) (s : State) (H : Heap) (locs : List Loc) : Prop :=
  va_K D CLs (tysA dA) s ∧ va_P D CLs (wsH θ dA h) H ∧ va_D A (wsH θ dA h) ∧ va_S A s.heap H locs
def Q (l : Launch) (own : String) (cc : ByteArray) (nL d mc ms : Nat) (G : GT) (pc : Nat) (lf : Nat → Option Value) (st : List Value) (h : HP) (ce sl : Nat) : Prop :=
  ∀ (p : Program) (e : Env) (R : Room) (s : State) (m : MethodId) (args : Array Value) (below : List Frame) (meth : Method) (c : Code) (D : va_G) (dA : Nat → ClassId) (θ : Nat → Nat) (A : Nat → Prop) (QQ : State → Prop) (H : Heap) (locs : List Loc) (ls : Array Slot),
    CX l own cc nL d mc ms p R s m args c A → G p e R s m args below meth c D dA θ A QQ → WD D dA θ A h s H locs → lv_has ls nL (lcv θ lf) →
    W p l e R s m args below meth c H locs ce sl QQ (F0 m pc ls (st.map (cvV θ)))
def QX (l : Launch) (own : String) (cc : ByteArray) (nL d mc ms : Nat) (G : GT) (E : String) (pc : Nat) (lf : Nat → Option Value) (st : List Value) (h : HP) (ce sl : Nat) : Prop :=
  ∀ (p : Program) (e : Env) (R : Room) (s : State) (m : MethodId) (args : Array Value) (below : List Frame) (meth : Method) (c : Code) (D : va_G) (dA : Nat → ClassId) (θ : Nat → Nat) (A : Nat → Prop) (QQ : State → Prop) (H : Heap) (locs : List Loc) (ls : Array Slot) (q9 : Addr) (ce9 : Cell),
    CX l own cc nL d mc ms p R s m args c A → G p e R s m args below meth c D dA θ A QQ → WD D dA θ A h s H locs → lv_has ls nL (lcv θ lf) → H[q9]? = some ce9 → ce9.vm = .none → s.vm.findClass E = some ce9.cls →
    vx_W p l e R s m args below meth c H locs ce sl QQ (F0 m pc ls (st.map (cvV θ))) q9
section RW
variable {l : Launch} {own : String} {cc : ByteArray} {nL d mc ms : Nat} {G : GT} {pc : Nat} {lf lf' : Nat → Option Value} {st : List Value} {h : HP} {ce sl : Nat}
theorem R_iload_n {j : Fin 4} {i : Nat} {x : Int32} (hd : decode cc pc = .ok (.iload_n j, 1)) (hi : (j : Nat) = i) (hv : lf i = some (.int x)) (k : Q l own cc nL d mc ms G (pc + 1) lf (.int x :: st) h ce sl) : Q l own cc nL d mc ms G pc lf st h ce sl := by
  intro p e R s m args below meth c D dA θ A QQ H locs ls cx g wd hl
  exact lv_iload_n cx.1 cx.2.1 hd hi (lcv_get hl (by omega) hv) (k p e R s m args below meth c D dA θ A QQ H locs ls cx g wd hl)
theorem R_iload {i : Nat} {x : Int32} (hd : decode cc pc = .ok (.iload i, 2)) (hi : i < 9) (hv : lf i = some (.int x)) (k : Q l own cc nL d mc ms G (pc + 2) lf (.int x :: st) h ce sl) : Q l own cc nL d mc ms G pc lf st h ce sl := by
  intro p e R s m args below meth c D dA θ A QQ H locs ls cx g wd hl
  exact lv_iload cx.1 cx.2.1 hd (lcv_get hl hi hv) (k p e R s m args below meth c D dA θ A QQ H locs ls cx g wd hl)
theorem R_aload_n {j : Fin 4} {i : Nat} {x : Nat} (hd : decode cc pc = .ok (.aload_n j, 1)) (hi : (j : Nat) = i) (hv : lf i = some (.ref x)) (k : Q l own cc nL d mc ms G (pc + 1) lf (.ref x :: st) h ce sl) : Q l own cc nL d mc ms G pc lf st h ce sl := by
  intro p e R s m args below meth c D dA θ A QQ H locs ls cx g wd hl
  exact lv_aload_n cx.1 cx.2.1 hd hi (lcv_get hl (by omega) hv) (k p e R s m args below meth c D dA θ A QQ H locs ls cx g wd hl)
theorem R_aload {i : Nat} {x : Nat} (hd : decode cc pc = .ok (.aload i, 2)) (hi : i < 9) (hv : lf i = some (.ref x)) (k : Q l own cc nL d mc ms G (pc + 2) lf (.ref x :: st) h ce sl) : Q l own cc nL d mc ms G pc lf st h ce sl := by
  intro p e R s m args below meth c D dA θ A QQ H locs ls cx g wd hl
  exact lv_aload cx.1 cx.2.1 hd (lcv_get hl hi hv) (k p e R s m args below meth c D dA θ A QQ H locs ls cx g wd hl)
theorem R_fload_n {j : Fin 4} {i : Nat} {x : UInt32} (hd : decode cc pc = .ok (.fload_n j, 1)) (hi : (j : Nat) = i) (hv : lf i = some (.float x)) (k : Q l own cc nL d mc ms G (pc + 1) lf (.float x :: st) h ce sl) : Q l own cc nL d mc ms G pc lf st h ce sl := by
  intro p e R s m args below meth c D dA θ A QQ H locs ls cx g wd hl
  exact lv_fload_n cx.1 cx.2.1 hd hi (lcv_get hl (by omega) hv) (k p e R s m args below meth c D dA θ A QQ H locs ls cx g wd hl)
theorem R_fload {i : Nat} {x : UInt32} (hd : decode cc pc = .ok (.fload i, 2)) (hi : i < 9) (hv : lf i = some (.float x)) (k : Q l own cc nL d mc ms G (pc + 2) lf (.float x :: st) h ce sl) : Q l own cc nL d mc ms G pc lf st h ce sl := by
  intro p e R s m args below meth c D dA θ A QQ H locs ls cx g wd hl
  exact lv_fload cx.1 cx.2.1 hd (lcv_get hl hi hv) (k p e R s m args below meth c D dA θ A QQ H locs ls cx g wd hl)
theorem R_dload_n {j : Fin 4} {i : Nat} {x : UInt64} (hd : decode cc pc = .ok (.dload_n j, 1)) (hi : (j : Nat) = i) (hv : lf i = some (.double x)) (k : Q l own cc nL d mc ms G (pc + 1) lf (.double x :: st) h ce sl) : Q l own cc nL d mc ms G pc lf st h ce sl := by
  intro p e R s m args below meth c D dA θ A QQ H locs ls cx g wd hl
  exact lv_dload_n cx.1 cx.2.1 hd hi (lcv_get hl (by omega) hv) (k p e R s m args below meth c D dA θ A QQ H locs ls cx g wd hl)
theorem R_dload {i : Nat} {x : UInt64} (hd : decode cc pc = .ok (.dload i, 2)) (hi : i < 9) (hv : lf i = some (.double x)) (k : Q l own cc nL d mc ms G (pc + 2) lf (.double x :: st) h ce sl) : Q l own cc nL d mc ms G pc lf st h ce sl := by
  intro p e R s m args below meth c D dA θ A QQ H locs ls cx g wd hl
  exact lv_dload cx.1 cx.2.1 hd (lcv_get hl hi hv) (k p e R s m args below meth c D dA θ A QQ H locs ls cx g wd hl)
theorem R_istore_n {j : Fin 4} {i : Nat} {x : Int32} (hd : decode cc pc = .ok (.istore_n j, 1)) (hi : (j : Nat) = i) (hn : i < nL) (hs : stO lf i (.int x) lf') (k : Q l own cc nL d mc ms G (pc + 1) lf' st h ce sl) : Q l own cc nL d mc ms G pc lf (.int x :: st) h ce sl := by
  intro p e R s m args below meth c D dA θ A QQ H locs ls cx g wd hl
  exact lv_istore_n cx.1 cx.2.1 hd hi hl hn rfl (fun ls9 hl9 => k p e R s m args below meth c D dA θ A QQ H locs ls9 cx g wd (lcv_set hs hl9))
theorem R_istore {i : Nat} {x : Int32} (hd : decode cc pc = .ok (.istore i, 2)) (hn : i < nL) (hs : stO lf i (.int x) lf') (k : Q l own cc nL d mc ms G (pc + 2) lf' st h ce sl) : Q l own cc nL d mc ms G pc lf (.int x :: st) h ce sl := by
  intro p e R s m args below meth c D dA θ A QQ H locs ls cx g wd hl
  exact lv_istore cx.1 cx.2.1 hd hl hn rfl (fun ls9 hl9 => k p e R s m args below meth c D dA θ A QQ H locs ls9 cx g wd (lcv_set hs hl9))
theorem R_astore_n {j : Fin 4} {i : Nat} {x : Nat} (hd : decode cc pc = .ok (.astore_n j, 1)) (hi : (j : Nat) = i) (hn : i < nL) (hs : stO lf i (.ref x) lf') (k : Q l own cc nL d mc ms G (pc + 1) lf' st h ce sl) : Q l own cc nL d mc ms G pc lf (.ref x :: st) h ce sl := by
  intro p e R s m args below meth c D dA θ A QQ H locs ls cx g wd hl
  exact lv_astore_n cx.1 cx.2.1 hd hi hl hn rfl (fun ls9 hl9 => k p e R s m args below meth c D dA θ A QQ H locs ls9 cx g wd (lcv_set hs hl9))
theorem R_astore {i : Nat} {x : Nat} (hd : decode cc pc = .ok (.astore i, 2)) (hn : i < nL) (hs : stO lf i (.ref x) lf') (k : Q l own cc nL d mc ms G (pc + 2) lf' st h ce sl) : Q l own cc nL d mc ms G pc lf (.ref x :: st) h ce sl := by
  intro p e R s m args below meth c D dA θ A QQ H locs ls cx g wd hl
  exact lv_astore cx.1 cx.2.1 hd hl hn rfl (fun ls9 hl9 => k p e R s m args below meth c D dA θ A QQ H locs ls9 cx g wd (lcv_set hs hl9))
theorem R_fstore_n {j : Fin 4} {i : Nat} {x : UInt32} (hd : decode cc pc = .ok (.fstore_n j, 1)) (hi : (j : Nat) = i) (hn : i < nL) (hs : stO lf i (.float x) lf') (k : Q l own cc nL d mc ms G (pc + 1) lf' st h ce sl) : Q l own cc nL d mc ms G pc lf (.float x :: st) h ce sl := by
  intro p e R s m args below meth c D dA θ A QQ H locs ls cx g wd hl
  exact lv_fstore_n cx.1 cx.2.1 hd hi hl hn rfl (fun ls9 hl9 => k p e R s m args below meth c D dA θ A QQ H locs ls9 cx g wd (lcv_set hs hl9))
theorem R_fstore {i : Nat} {x : UInt32} (hd : decode cc pc = .ok (.fstore i, 2)) (hn : i < nL) (hs : stO lf i (.float x) lf') (k : Q l own cc nL d mc ms G (pc + 2) lf' st h ce sl) : Q l own cc nL d mc ms G pc lf (.float x :: st) h ce sl := by
  intro p e R s m args below meth c D dA θ A QQ H locs ls cx g wd hl
  exact lv_fstore cx.1 cx.2.1 hd hl hn rfl (fun ls9 hl9 => k p e R s m args below meth c D dA θ A QQ H locs ls9 cx g wd (lcv_set hs hl9))
theorem R_iinc {i : Nat} {n : Int} {x v : Int32} (hd : decode cc pc = .ok (.iinc i n, 3)) (hi : i < 9) (hv : lf i = some (.int x)) (hx : x + Int32.ofInt n = v) (hn : i < nL) (hs : stO lf i (.int v) lf') (k : Q l own cc nL d mc ms G (pc + 3) lf' st h ce sl) : Q l own cc nL d mc ms G pc lf st h ce sl := by
  intro p e R s m args below meth c D dA θ A QQ H locs ls cx g wd hl
  obtain ⟨kk, hk⟩ := List.getElem?_of_mem (lcv_mem.mpr (show (i, Value.int x).1 < 9 ∧ ∃ v, lf (i, Value.int x).1 = some v ∧ (i, Value.int x).2 = cvV θ v from ⟨hi, .int x, hv, rfl⟩))
  exact lv_iinc cx.1 cx.2.1 hd hl hk hx hn rfl (fun ls9 hl9 => k p e R s m args below meth c D dA θ A QQ H locs ls9 cx g wd (lcv_set hs hl9))
/-- fewer things known of the locals -/
theorem R_weak (hs : ∀ i v, lf' i = some v → lf i = some v) (k : Q l own cc nL d mc ms G pc lf' st h ce sl) : Q l own cc nL d mc ms G pc lf st h ce sl := by
  intro p e R s m args below meth c D dA θ A QQ H locs ls cx g wd hl
  refine k p e R s m args below meth c D dA θ A QQ H locs ls cx g wd ⟨hl.1, hl.2.1, fun q hq => hl.2.2 q ?_⟩
  obtain ⟨h1, v, h2, h3⟩ := lcv_mem.mp hq
  exact lcv_mem.mpr ⟨h1, v, hs _ _ h2, h3⟩
theorem R_widen {ce' sl' : Nat} (h1 : ce ≤ ce') (h2 : sl ≤ sl') (k : Q l own cc nL d mc ms G pc lf st h ce' sl') : Q l own cc nL d mc ms G pc lf st h ce sl :=
  fun p e R s m args below meth c D dA θ A QQ H locs ls cx g wd hl => W.widen h1 h2 (k p e R s m args below meth c D dA θ A QQ H locs ls cx g wd hl)
theorem R_iconst {n : Int} {v : Int32} (hd : decode cc pc = .ok (.iconst n, 1)) (hv : Int32.ofInt n = v) (k : Q l own cc nL d mc ms G (pc + 1) lf (.int v :: st) h ce sl) : Q l own cc nL d mc ms G pc lf st h ce sl := by
  intro p e R s m args below meth c D dA θ A QQ H locs ls cx g wd hl
  exact lv_iconst cx.1 cx.2.1 hd hv (k p e R s m args below meth c D dA θ A QQ H locs ls cx g wd hl)
theorem R_bipush {n : Int} {v : Int32} (hd : decode cc pc = .ok (.bipush n, 2)) (hv : (Int8.ofInt n).toInt32 = v) (k : Q l own cc nL d mc ms G (pc + 2) lf (.int v :: st) h ce sl) : Q l own cc nL d mc ms G pc lf st h ce sl := by
  intro p e R s m args below meth c D dA θ A QQ H locs ls cx g wd hl
  exact lv_bipush cx.1 cx.2.1 hd hv (k p e R s m args below meth c D dA θ A QQ H locs ls cx g wd hl)
theorem R_sipush {n : Int} {v : Int32} (hd : decode cc pc = .ok (.sipush n, 3)) (hv : (Int16.ofInt n).toInt32 = v) (k : Q l own cc nL d mc ms G (pc + 3) lf (.int v :: st) h ce sl) : Q l own cc nL d mc ms G pc lf st h ce sl := by
  intro p e R s m args below meth c D dA θ A QQ H locs ls cx g wd hl
  exact lv_sipush cx.1 cx.2.1 hd hv (k p e R s m args below meth c D dA θ A QQ H locs ls cx g wd hl)
theorem R_lconst {n : Fin 2} {v : Int64} (hd : decode cc pc = .ok (.lconst n, 1)) (hv : Int64.ofNat (n : Nat) = v) (k : Q l own cc nL d mc ms G (pc + 1) lf (.long v :: st) h ce sl) : Q l own cc nL d mc ms G pc lf st h ce sl := by
  intro p e R s m args below meth c D dA θ A QQ H locs ls cx g wd hl
  exact lv_lconst cx.1 cx.2.1 hd hv (k p e R s m args below meth c D dA θ A QQ H locs ls cx g wd hl)
theorem R_iadd {x y : Int32} (hd : decode cc pc = .ok (.iadd, 1)) (k : Q l own cc nL d mc ms G (pc + 1) lf (.int (x + y) :: st) h ce sl) : Q l own cc nL d mc ms G pc lf (.int y :: .int x :: st) h ce sl := by
  intro p e R s m args below meth c D dA θ A QQ H locs ls cx g wd hl
  exact lv_iadd cx.1 cx.2.1 hd (k p e R s m args below meth c D dA θ A QQ H locs ls cx g wd hl)
theorem R_isub {x y : Int32} (hd : decode cc pc = .ok (.isub, 1)) (k : Q l own cc nL d mc ms G (pc + 1) lf (.int (x - y) :: st) h ce sl) : Q l own cc nL d mc ms G pc lf (.int y :: .int x :: st) h ce sl := by
  intro p e R s m args below meth c D dA θ A QQ H locs ls cx g wd hl
  exact lv_isub cx.1 cx.2.1 hd (k p e R s m args below meth c D dA θ A QQ H locs ls cx g wd hl)
theorem R_imul {x y : Int32} (hd : decode cc pc = .ok (.imul, 1)) (k : Q l own cc nL d mc ms G (pc + 1) lf (.int (x * y) :: st) h ce sl) : Q l own cc nL d mc ms G pc lf (.int y :: .int x :: st) h ce sl := by
  intro p e R s m args below meth c D dA θ A QQ H locs ls cx g wd hl
  exact lv_imul cx.1 cx.2.1 hd (k p e R s m args below meth c D dA θ A QQ H locs ls cx g wd hl)
theorem R_iand {x y : Int32} (hd : decode cc pc = .ok (.iand, 1)) (k : Q l own cc nL d mc ms G (pc + 1) lf (.int (x &&& y) :: st) h ce sl) : Q l own cc nL d mc ms G pc lf (.int y :: .int x :: st) h ce sl := by
  intro p e R s m args below meth c D dA θ A QQ H locs ls cx g wd hl
  exact lv_iand cx.1 cx.2.1 hd (k p e R s m args below meth c D dA θ A QQ H locs ls cx g wd hl)
theorem R_ishl {x y : Int32} (hd : decode cc pc = .ok (.ishl, 1)) (k : Q l own cc nL d mc ms G (pc + 1) lf (.int (x <<< (y &&& 31)) :: st) h ce sl) : Q l own cc nL d mc ms G pc lf (.int y :: .int x :: st) h ce sl := by
  intro p e R s m args below meth c D dA θ A QQ H locs ls cx g wd hl
  exact lv_ishl cx.1 cx.2.1 hd (k p e R s m args below meth c D dA θ A QQ H locs ls cx g wd hl)
theorem R_idiv {x y : Int32} (hd : decode cc pc = .ok (.idiv, 1)) (hne : ¬ y = 0) (k : Q l own cc nL d mc ms G (pc + 1) lf (.int (x / y) :: st) h ce sl) : Q l own cc nL d mc ms G pc lf (.int y :: .int x :: st) h ce sl := by
  intro p e R s m args below meth c D dA θ A QQ H locs ls cx g wd hl
  exact lv_idiv cx.1 cx.2.1 hd hne (k p e R s m args below meth c D dA θ A QQ H locs ls cx g wd hl)
theorem R_irem {x y : Int32} (hd : decode cc pc = .ok (.irem, 1)) (hne : ¬ y = 0) (k : Q l own cc nL d mc ms G (pc + 1) lf (.int (x - x / y * y) :: st) h ce sl) : Q l own cc nL d mc ms G pc lf (.int y :: .int x :: st) h ce sl := by
  intro p e R s m args below meth c D dA θ A QQ H locs ls cx g wd hl
  exact lv_irem cx.1 cx.2.1 hd hne (k p e R s m args below meth c D dA θ A QQ H locs ls cx g wd hl)
theorem R_i2c {x v : Int32} (hd : decode cc pc = .ok (.i2c, 1)) (hv : (x.toUInt32 % 65536).toInt32 = v) (k : Q l own cc nL d mc ms G (pc + 1) lf (.int v :: st) h ce sl) : Q l own cc nL d mc ms G pc lf (.int x :: st) h ce sl := by
  intro p e R s m args below meth c D dA θ A QQ H locs ls cx g wd hl
  exact lv_i2c cx.1 cx.2.1 hd hv (k p e R s m args below meth c D dA θ A QQ H locs ls cx g wd hl)
theorem R_i2l {x : Int32} {v : Int64} (hd : decode cc pc = .ok (.i2l, 1)) (hv : x.toInt64 = v) (k : Q l own cc nL d mc ms G (pc + 1) lf (.long v :: st) h ce sl) : Q l own cc nL d mc ms G pc lf (.int x :: st) h ce sl := by
  intro p e R s m args below meth c D dA θ A QQ H locs ls cx g wd hl
  exact lv_i2l cx.1 cx.2.1 hd hv (k p e R s m args below meth c D dA θ A QQ H locs ls cx g wd hl)
theorem R_lcmp {x y : Int64} (hd : decode cc pc = .ok (.lcmp, 1)) (k : Q l own cc nL d mc ms G (pc + 1) lf (.int (lg_cmp x y) :: st) h ce sl) : Q l own cc nL d mc ms G pc lf (.long y :: .long x :: st) h ce sl := by
  intro p e R s m args below meth c D dA θ A QQ H locs ls cx g wd hl
  exact W.lcmp cx.1 cx.2.1 hd (k p e R s m args below meth c D dA θ A QQ H locs ls cx g wd hl)
theorem R_goto {off : Int} {tgt : Nat} (hd : decode cc pc = .ok (.goto off, 3)) (ht : (pc : Int) + off = (tgt : Int)) (k : Q l own cc nL d mc ms G tgt lf st h ce sl) : Q l own cc nL d mc ms G pc lf st h ce sl := by
  intro p e R s m args below meth c D dA θ A QQ H locs ls cx g wd hl
  exact lv_goto cx.1 cx.2.1 hd ht (k p e R s m args below meth c D dA θ A QQ H locs ls cx g wd hl)
theorem R_if_eq {x : Int32} {off : Int} {tgt : Nat} (hd : decode cc pc = .ok (.ifCond .eq off, 3)) (ht : (pc : Int) + off = (tgt : Int)) (kt : x = 0 → Q l own cc nL d mc ms G tgt lf st h ce sl) (kf : ¬ x = 0 → Q l own cc nL d mc ms G (pc + 3) lf st h ce sl) : Q l own cc nL d mc ms G pc lf (.int x :: st) h ce sl := by
  intro p e R s m args below meth c D dA θ A QQ H locs ls cx g wd hl
  exact lv_if_eq cx.1 cx.2.1 hd ht (fun q => kt q p e R s m args below meth c D dA θ A QQ H locs ls cx g wd hl) (fun q => kf q p e R s m args below meth c D dA θ A QQ H locs ls cx g wd hl)
theorem R_if_eq_t {x : Int32} {off : Int} {tgt : Nat} (hd : decode cc pc = .ok (.ifCond .eq off, 3)) (ht : (pc : Int) + off = (tgt : Int)) (q : x = 0) (kt : Q l own cc nL d mc ms G tgt lf st h ce sl) : Q l own cc nL d mc ms G pc lf (.int x :: st) h ce sl := R_if_eq hd ht (fun _ => kt) (fun z => absurd q (by first | exact z | (intro q; exact q z)))
theorem R_if_eq_f {x : Int32} {off : Int} {tgt : Nat} (hd : decode cc pc = .ok (.ifCond .eq off, 3)) (ht : (pc : Int) + off = (tgt : Int)) (q : ¬ x = 0) (kf : Q l own cc nL d mc ms G (pc + 3) lf st h ce sl) : Q l own cc nL d mc ms G pc lf (.int x :: st) h ce sl := R_if_eq hd ht (fun z => absurd z (by first | exact q | (intro z; exact z q))) (fun _ => kf)
theorem R_icmp_eq {x y : Int32} {off : Int} {tgt : Nat} (hd : decode cc pc = .ok (.if_icmp .eq off, 3)) (ht : (pc : Int) + off = (tgt : Int)) (kt : x = y → Q l own cc nL d mc ms G tgt lf st h ce sl) (kf : ¬ x = y → Q l own cc nL d mc ms G (pc + 3) lf st h ce sl) : Q l own cc nL d mc ms G pc lf (.int y :: .int x :: st) h ce sl := by
  intro p e R s m args below meth c D dA θ A QQ H locs ls cx g wd hl
  exact lv_icmp_eq cx.1 cx.2.1 hd ht (fun q => kt q p e R s m args below meth c D dA θ A QQ H locs ls cx g wd hl) (fun q => kf q p e R s m args below meth c D dA θ A QQ H locs ls cx g wd hl)
theorem R_icmp_eq_t {x y : Int32} {off : Int} {tgt : Nat} (hd : decode cc pc = .ok (.if_icmp .eq off, 3)) (ht : (pc : Int) + off = (tgt : Int)) (q : x = y) (kt : Q l own cc nL d mc ms G tgt lf st h ce sl) : Q l own cc nL d mc ms G pc lf (.int y :: .int x :: st) h ce sl := R_icmp_eq hd ht (fun _ => kt) (fun z => absurd q (by first | exact z | (intro q; exact q z)))
theorem R_icmp_eq_f {x y : Int32} {off : Int} {tgt : Nat} (hd : decode cc pc = .ok (.if_icmp .eq off, 3)) (ht : (pc : Int) + off = (tgt : Int)) (q : ¬ x = y) (kf : Q l own cc nL d mc ms G (pc + 3) lf st h ce sl) : Q l own cc nL d mc ms G pc lf (.int y :: .int x :: st) h ce sl := R_icmp_eq hd ht (fun z => absurd z (by first | exact q | (intro z; exact z q))) (fun _ => kf)
theorem R_if_ne {x : Int32} {off : Int} {tgt : Nat} (hd : decode cc pc = .ok (.ifCond .ne off, 3)) (ht : (pc : Int) + off = (tgt : Int)) (kt : ¬ x = 0 → Q l own cc nL d mc ms G tgt lf st h ce sl) (kf : x = 0 → Q l own cc nL d mc ms G (pc + 3) lf st h ce sl) : Q l own cc nL d mc ms G pc lf (.int x :: st) h ce sl := by
  intro p e R s m args below meth c D dA θ A QQ H locs ls cx g wd hl
  exact lv_if_ne cx.1 cx.2.1 hd ht (fun q => kt q p e R s m args below meth c D dA θ A QQ H locs ls cx g wd hl) (fun q => kf q p e R s m args below meth c D dA θ A QQ H locs ls cx g wd hl)
theorem R_if_ne_t {x : Int32} {off : Int} {tgt : Nat} (hd : decode cc pc = .ok (.ifCond .ne off, 3)) (ht : (pc : Int) + off = (tgt : Int)) (q : ¬ x = 0) (kt : Q l own cc nL d mc ms G tgt lf st h ce sl) : Q l own cc nL d mc ms G pc lf (.int x :: st) h ce sl := R_if_ne hd ht (fun _ => kt) (fun z => absurd q (by first | exact z | (intro q; exact q z)))
theorem R_if_ne_f {x : Int32} {off : Int} {tgt : Nat} (hd : decode cc pc = .ok (.ifCond .ne off, 3)) (ht : (pc : Int) + off = (tgt : Int)) (q : x = 0) (kf : Q l own cc nL d mc ms G (pc + 3) lf st h ce sl) : Q l own cc nL d mc ms G pc lf (.int x :: st) h ce sl := R_if_ne hd ht (fun z => absurd z (by first | exact q | (intro z; exact z q))) (fun _ => kf)
theorem R_icmp_ne {x y : Int32} {off : Int} {tgt : Nat} (hd : decode cc pc = .ok (.if_icmp .ne off, 3)) (ht : (pc : Int) + off = (tgt : Int)) (kt : ¬ x = y → Q l own cc nL d mc ms G tgt lf st h ce sl) (kf : x = y → Q l own cc nL d mc ms G (pc + 3) lf st h ce sl) : Q l own cc nL d mc ms G pc lf (.int y :: .int x :: st) h ce sl := by
  intro p e R s m args below meth c D dA θ A QQ H locs ls cx g wd hl
  exact lv_icmp_ne cx.1 cx.2.1 hd ht (fun q => kt q p e R s m args below meth c D dA θ A QQ H locs ls cx g wd hl) (fun q => kf q p e R s m args below meth c D dA θ A QQ H locs ls cx g wd hl)
theorem R_icmp_ne_t {x y : Int32} {off : Int} {tgt : Nat} (hd : decode cc pc = .ok (.if_icmp .ne off, 3)) (ht : (pc : Int) + off = (tgt : Int)) (q : ¬ x = y) (kt : Q l own cc nL d mc ms G tgt lf st h ce sl) : Q l own cc nL d mc ms G pc lf (.int y :: .int x :: st) h ce sl := R_icmp_ne hd ht (fun _ => kt) (fun z => absurd q (by first | exact z | (intro q; exact q z)))
theorem R_icmp_ne_f {x y : Int32} {off : Int} {tgt : Nat} (hd : decode cc pc = .ok (.if_icmp .ne off, 3)) (ht : (pc : Int) + off = (tgt : Int)) (q : x = y) (kf : Q l own cc nL d mc ms G (pc + 3) lf st h ce sl) : Q l own cc nL d mc ms G pc lf (.int y :: .int x :: st) h ce sl := R_icmp_ne hd ht (fun z => absurd z (by first | exact q | (intro z; exact z q))) (fun _ => kf)
theorem R_if_lt {x : Int32} {off : Int} {tgt : Nat} (hd : decode cc pc = .ok (.ifCond .lt off, 3)) (ht : (pc : Int) + off = (tgt : Int)) (kt : x < 0 → Q l own cc nL d mc ms G tgt lf st h ce sl) (kf : ¬ x < 0 → Q l own cc nL d mc ms G (pc + 3) lf st h ce sl) : Q l own cc nL d mc ms G pc lf (.int x :: st) h ce sl := by
  intro p e R s m args below meth c D dA θ A QQ H locs ls cx g wd hl
  exact lv_if_lt cx.1 cx.2.1 hd ht (fun q => kt q p e R s m args below meth c D dA θ A QQ H locs ls cx g wd hl) (fun q => kf q p e R s m args below meth c D dA θ A QQ H locs ls cx g wd hl)
theorem R_if_lt_t {x : Int32} {off : Int} {tgt : Nat} (hd : decode cc pc = .ok (.ifCond .lt off, 3)) (ht : (pc : Int) + off = (tgt : Int)) (q : x < 0) (kt : Q l own cc nL d mc ms G tgt lf st h ce sl) : Q l own cc nL d mc ms G pc lf (.int x :: st) h ce sl := R_if_lt hd ht (fun _ => kt) (fun z => absurd q (by first | exact z | (intro q; exact q z)))
theorem R_if_lt_f {x : Int32} {off : Int} {tgt : Nat} (hd : decode cc pc = .ok (.ifCond .lt off, 3)) (ht : (pc : Int) + off = (tgt : Int)) (q : ¬ x < 0) (kf : Q l own cc nL d mc ms G (pc + 3) lf st h ce sl) : Q l own cc nL d mc ms G pc lf (.int x :: st) h ce sl := R_if_lt hd ht (fun z => absurd z (by first | exact q | (intro z; exact z q))) (fun _ => kf)
theorem R_icmp_lt {x y : Int32} {off : Int} {tgt : Nat} (hd : decode cc pc = .ok (.if_icmp .lt off, 3)) (ht : (pc : Int) + off = (tgt : Int)) (kt : x < y → Q l own cc nL d mc ms G tgt lf st h ce sl) (kf : ¬ x < y → Q l own cc nL d mc ms G (pc + 3) lf st h ce sl) : Q l own cc nL d mc ms G pc lf (.int y :: .int x :: st) h ce sl := by
  intro p e R s m args below meth c D dA θ A QQ H locs ls cx g wd hl
  exact lv_icmp_lt cx.1 cx.2.1 hd ht (fun q => kt q p e R s m args below meth c D dA θ A QQ H locs ls cx g wd hl) (fun q => kf q p e R s m args below meth c D dA θ A QQ H locs ls cx g wd hl)
theorem R_icmp_lt_t {x y : Int32} {off : Int} {tgt : Nat} (hd : decode cc pc = .ok (.if_icmp .lt off, 3)) (ht : (pc : Int) + off = (tgt : Int)) (q : x < y) (kt : Q l own cc nL d mc ms G tgt lf st h ce sl) : Q l own cc nL d mc ms G pc lf (.int y :: .int x :: st) h ce sl := R_icmp_lt hd ht (fun _ => kt) (fun z => absurd q (by first | exact z | (intro q; exact q z)))
theorem R_icmp_lt_f {x y : Int32} {off : Int} {tgt : Nat} (hd : decode cc pc = .ok (.if_icmp .lt off, 3)) (ht : (pc : Int) + off = (tgt : Int)) (q : ¬ x < y) (kf : Q l own cc nL d mc ms G (pc + 3) lf st h ce sl) : Q l own cc nL d mc ms G pc lf (.int y :: .int x :: st) h ce sl := R_icmp_lt hd ht (fun z => absurd z (by first | exact q | (intro z; exact z q))) (fun _ => kf)
theorem R_if_ge {x : Int32} {off : Int} {tgt : Nat} (hd : decode cc pc = .ok (.ifCond .ge off, 3)) (ht : (pc : Int) + off = (tgt : Int)) (kt : 0 ≤ x → Q l own cc nL d mc ms G tgt lf st h ce sl) (kf : ¬ 0 ≤ x → Q l own cc nL d mc ms G (pc + 3) lf st h ce sl) : Q l own cc nL d mc ms G pc lf (.int x :: st) h ce sl := by
  intro p e R s m args below meth c D dA θ A QQ H locs ls cx g wd hl
  exact lv_if_ge cx.1 cx.2.1 hd ht (fun q => kt q p e R s m args below meth c D dA θ A QQ H locs ls cx g wd hl) (fun q => kf q p e R s m args below meth c D dA θ A QQ H locs ls cx g wd hl)
theorem R_if_ge_t {x : Int32} {off : Int} {tgt : Nat} (hd : decode cc pc = .ok (.ifCond .ge off, 3)) (ht : (pc : Int) + off = (tgt : Int)) (q : 0 ≤ x) (kt : Q l own cc nL d mc ms G tgt lf st h ce sl) : Q l own cc nL d mc ms G pc lf (.int x :: st) h ce sl := R_if_ge hd ht (fun _ => kt) (fun z => absurd q (by first | exact z | (intro q; exact q z)))
theorem R_if_ge_f {x : Int32} {off : Int} {tgt : Nat} (hd : decode cc pc = .ok (.ifCond .ge off, 3)) (ht : (pc : Int) + off = (tgt : Int)) (q : ¬ 0 ≤ x) (kf : Q l own cc nL d mc ms G (pc + 3) lf st h ce sl) : Q l own cc nL d mc ms G pc lf (.int x :: st) h ce sl := R_if_ge hd ht (fun z => absurd z (by first | exact q | (intro z; exact z q))) (fun _ => kf)
theorem R_icmp_ge {x y : Int32} {off : Int} {tgt : Nat} (hd : decode cc pc = .ok (.if_icmp .ge off, 3)) (ht : (pc : Int) + off = (tgt : Int)) (kt : y ≤ x → Q l own cc nL d mc ms G tgt lf st h ce sl) (kf : ¬ y ≤ x → Q l own cc nL d mc ms G (pc + 3) lf st h ce sl) : Q l own cc nL d mc ms G pc lf (.int y :: .int x :: st) h ce sl := by
  intro p e R s m args below meth c D dA θ A QQ H locs ls cx g wd hl
  exact lv_icmp_ge cx.1 cx.2.1 hd ht (fun q => kt q p e R s m args below meth c D dA θ A QQ H locs ls cx g wd hl) (fun q => kf q p e R s m args below meth c D dA θ A QQ H locs ls cx g wd hl)
theorem R_icmp_ge_t {x y : Int32} {off : Int} {tgt : Nat} (hd : decode cc pc = .ok (.if_icmp .ge off, 3)) (ht : (pc : Int) + off = (tgt : Int)) (q : y ≤ x) (kt : Q l own cc nL d mc ms G tgt lf st h ce sl) : Q l own cc nL d mc ms G pc lf (.int y :: .int x :: st) h ce sl := R_icmp_ge hd ht (fun _ => kt) (fun z => absurd q (by first | exact z | (intro q; exact q z)))
theorem R_icmp_ge_f {x y : Int32} {off : Int} {tgt : Nat} (hd : decode cc pc = .ok (.if_icmp .ge off, 3)) (ht : (pc : Int) + off = (tgt : Int)) (q : ¬ y ≤ x) (kf : Q l own cc nL d mc ms G (pc + 3) lf st h ce sl) : Q l own cc nL d mc ms G pc lf (.int y :: .int x :: st) h ce sl := R_icmp_ge hd ht (fun z => absurd z (by first | exact q | (intro z; exact z q))) (fun _ => kf)
theorem R_if_gt {x : Int32} {off : Int} {tgt : Nat} (hd : decode cc pc = .ok (.ifCond .gt off, 3)) (ht : (pc : Int) + off = (tgt : Int)) (kt : 0 < x → Q l own cc nL d mc ms G tgt lf st h ce sl) (kf : ¬ 0 < x → Q l own cc nL d mc ms G (pc + 3) lf st h ce sl) : Q l own cc nL d mc ms G pc lf (.int x :: st) h ce sl := by
  intro p e R s m args below meth c D dA θ A QQ H locs ls cx g wd hl
  exact lv_if_gt cx.1 cx.2.1 hd ht (fun q => kt q p e R s m args below meth c D dA θ A QQ H locs ls cx g wd hl) (fun q => kf q p e R s m args below meth c D dA θ A QQ H locs ls cx g wd hl)
theorem R_if_gt_t {x : Int32} {off : Int} {tgt : Nat} (hd : decode cc pc = .ok (.ifCond .gt off, 3)) (ht : (pc : Int) + off = (tgt : Int)) (q : 0 < x) (kt : Q l own cc nL d mc ms G tgt lf st h ce sl) : Q l own cc nL d mc ms G pc lf (.int x :: st) h ce sl := R_if_gt hd ht (fun _ => kt) (fun z => absurd q (by first | exact z | (intro q; exact q z)))
theorem R_if_gt_f {x : Int32} {off : Int} {tgt : Nat} (hd : decode cc pc = .ok (.ifCond .gt off, 3)) (ht : (pc : Int) + off = (tgt : Int)) (q : ¬ 0 < x) (kf : Q l own cc nL d mc ms G (pc + 3) lf st h ce sl) : Q l own cc nL d mc ms G pc lf (.int x :: st) h ce sl := R_if_gt hd ht (fun z => absurd z (by first | exact q | (intro z; exact z q))) (fun _ => kf)
theorem R_icmp_gt {x y : Int32} {off : Int} {tgt : Nat} (hd : decode cc pc = .ok (.if_icmp .gt off, 3)) (ht : (pc : Int) + off = (tgt : Int)) (kt : y < x → Q l own cc nL d mc ms G tgt lf st h ce sl) (kf : ¬ y < x → Q l own cc nL d mc ms G (pc + 3) lf st h ce sl) : Q l own cc nL d mc ms G pc lf (.int y :: .int x :: st) h ce sl := by
  intro p e R s m args below meth c D dA θ A QQ H locs ls cx g wd hl
  exact lv_icmp_gt cx.1 cx.2.1 hd ht (fun q => kt q p e R s m args below meth c D dA θ A QQ H locs ls cx g wd hl) (fun q => kf q p e R s m args below meth c D dA θ A QQ H locs ls cx g wd hl)
theorem R_icmp_gt_t {x y : Int32} {off : Int} {tgt : Nat} (hd : decode cc pc = .ok (.if_icmp .gt off, 3)) (ht : (pc : Int) + off = (tgt : Int)) (q : y < x) (kt : Q l own cc nL d mc ms G tgt lf st h ce sl) : Q l own cc nL d mc ms G pc lf (.int y :: .int x :: st) h ce sl := R_icmp_gt hd ht (fun _ => kt) (fun z => absurd q (by first | exact z | (intro q; exact q z)))
theorem R_icmp_gt_f {x y : Int32} {off : Int} {tgt : Nat} (hd : decode cc pc = .ok (.if_icmp .gt off, 3)) (ht : (pc : Int) + off = (tgt : Int)) (q : ¬ y < x) (kf : Q l own cc nL d mc ms G (pc + 3) lf st h ce sl) : Q l own cc nL d mc ms G pc lf (.int y :: .int x :: st) h ce sl := R_icmp_gt hd ht (fun z => absurd z (by first | exact q | (intro z; exact z q))) (fun _ => kf)
theorem R_if_le {x : Int32} {off : Int} {tgt : Nat} (hd : decode cc pc = .ok (.ifCond .le off, 3)) (ht : (pc : Int) + off = (tgt : Int)) (kt : x ≤ 0 → Q l own cc nL d mc ms G tgt lf st h ce sl) (kf : ¬ x ≤ 0 → Q l own cc nL d mc ms G (pc + 3) lf st h ce sl) : Q l own cc nL d mc ms G pc lf (.int x :: st) h ce sl := by
  intro p e R s m args below meth c D dA θ A QQ H locs ls cx g wd hl
  exact lv_if_le cx.1 cx.2.1 hd ht (fun q => kt q p e R s m args below meth c D dA θ A QQ H locs ls cx g wd hl) (fun q => kf q p e R s m args below meth c D dA θ A QQ H locs ls cx g wd hl)
theorem R_if_le_t {x : Int32} {off : Int} {tgt : Nat} (hd : decode cc pc = .ok (.ifCond .le off, 3)) (ht : (pc : Int) + off = (tgt : Int)) (q : x ≤ 0) (kt : Q l own cc nL d mc ms G tgt lf st h ce sl) : Q l own cc nL d mc ms G pc lf (.int x :: st) h ce sl := R_if_le hd ht (fun _ => kt) (fun z => absurd q (by first | exact z | (intro q; exact q z)))
theorem R_if_le_f {x : Int32} {off : Int} {tgt : Nat} (hd : decode cc pc = .ok (.ifCond .le off, 3)) (ht : (pc : Int) + off = (tgt : Int)) (q : ¬ x ≤ 0) (kf : Q l own cc nL d mc ms G (pc + 3) lf st h ce sl) : Q l own cc nL d mc ms G pc lf (.int x :: st) h ce sl := R_if_le hd ht (fun z => absurd z (by first | exact q | (intro z; exact z q))) (fun _ => kf)
theorem R_icmp_le {x y : Int32} {off : Int} {tgt : Nat} (hd : decode cc pc = .ok (.if_icmp .le off, 3)) (ht : (pc : Int) + off = (tgt : Int)) (kt : x ≤ y → Q l own cc nL d mc ms G tgt lf st h ce sl) (kf : ¬ x ≤ y → Q l own cc nL d mc ms G (pc + 3) lf st h ce sl) : Q l own cc nL d mc ms G pc lf (.int y :: .int x :: st) h ce sl := by
  intro p e R s m args below meth c D dA θ A QQ H locs ls cx g wd hl
  exact lv_icmp_le cx.1 cx.2.1 hd ht (fun q => kt q p e R s m args below meth c D dA θ A QQ H locs ls cx g wd hl) (fun q => kf q p e R s m args below meth c D dA θ A QQ H locs ls cx g wd hl)
theorem R_icmp_le_t {x y : Int32} {off : Int} {tgt : Nat} (hd : decode cc pc = .ok (.if_icmp .le off, 3)) (ht : (pc : Int) + off = (tgt : Int)) (q : x ≤ y) (kt : Q l own cc nL d mc ms G tgt lf st h ce sl) : Q l own cc nL d mc ms G pc lf (.int y :: .int x :: st) h ce sl := R_icmp_le hd ht (fun _ => kt) (fun z => absurd q (by first | exact z | (intro q; exact q z)))
theorem R_icmp_le_f {x y : Int32} {off : Int} {tgt : Nat} (hd : decode cc pc = .ok (.if_icmp .le off, 3)) (ht : (pc : Int) + off = (tgt : Int)) (q : ¬ x ≤ y) (kf : Q l own cc nL d mc ms G (pc + 3) lf st h ce sl) : Q l own cc nL d mc ms G pc lf (.int y :: .int x :: st) h ce sl := R_icmp_le hd ht (fun z => absurd z (by first | exact q | (intro z; exact z q))) (fun _ => kf)
theorem R_dup {v : Value} (hd : decode cc pc = .ok (.dup, 1)) (hv : v.category = 1) (k : Q l own cc nL d mc ms G (pc + 1) lf (v :: v :: st) h ce sl) : Q l own cc nL d mc ms G pc lf (v :: st) h ce sl := by
  intro p e R s m args below meth c D dA θ A QQ H locs ls cx g wd hl
  exact lv_dup cx.1 cx.2.1 hd (by rw [cvV_cat]; exact hv) (k p e R s m args below meth c D dA θ A QQ H locs ls cx g wd hl)
theorem R_dup2 {u v : Value} (hd : decode cc pc = .ok (.dup2, 1)) (hu : u.category = 1) (hv : v.category = 1) (k : Q l own cc nL d mc ms G (pc + 1) lf (v :: u :: v :: u :: st) h ce sl) : Q l own cc nL d mc ms G pc lf (v :: u :: st) h ce sl := by
  intro p e R s m args below meth c D dA θ A QQ H locs ls cx g wd hl
  exact lv_dup2_11 cx.1 cx.2.1 hd (by rw [cvV_cat]; first | exact hv | exact hu) (by rw [cvV_cat]; first | exact hu | exact hv) (k p e R s m args below meth c D dA θ A QQ H locs ls cx g wd hl)
theorem R_pop {v : Value} (hd : decode cc pc = .ok (.pop, 1)) (hv : v.category = 1) (k : Q l own cc nL d mc ms G (pc + 1) lf st h ce sl) : Q l own cc nL d mc ms G pc lf (v :: st) h ce sl := by
  intro p e R s m args below meth c D dA θ A QQ H locs ls cx g wd hl
  exact lv_pop cx.1 cx.2.1 hd (by rw [cvV_cat]; exact hv) (k p e R s m args below meth c D dA θ A QQ H locs ls cx g wd hl)
theorem R_tableOut {dflt lo hi : Int} {offs : Array Int} {len : Nat} {x : Int32} {tgt : Nat} (hd : decode cc pc = .ok (.tableswitch dflt lo hi offs, len)) (hx : x.toInt < lo ∨ hi < x.toInt) (ht : (pc : Int) + dflt = (tgt : Int)) (k : Q l own cc nL d mc ms G tgt lf st h ce sl) : Q l own cc nL d mc ms G pc lf (.int x :: st) h ce sl := by
  intro p e R s m args below meth c D dA θ A QQ H locs ls cx g wd hl
  exact lv_tableOut cx.1 cx.2.1 hd hx ht (k p e R s m args below meth c D dA θ A QQ H locs ls cx g wd hl)
theorem R_tableIn {dflt lo hi : Int} {offs : Array Int} {len : Nat} {x : Int32} {off : Int} {tgt : Nat} (hd : decode cc pc = .ok (.tableswitch dflt lo hi offs, len)) (h1 : ¬ x.toInt < lo) (h2 : ¬ hi < x.toInt) (ho : offs[(x.toInt - lo).toNat]? = some off) (ht : (pc : Int) + off = (tgt : Int)) (k : Q l own cc nL d mc ms G tgt lf st h ce sl) : Q l own cc nL d mc ms G pc lf (.int x :: st) h ce sl := by
  intro p e R s m args below meth c D dA θ A QQ H locs ls cx g wd hl
  exact lv_tableIn cx.1 cx.2.1 hd h1 h2 ho ht (k p e R s m args below meth c D dA θ A QQ H locs ls cx g wd hl)
theorem R_lookup {dflt : Int} {ps : Array (Int × Int)} {len : Nat} {x : Int32} {off : Int} {tgt : Nat} (hd : decode cc pc = .ok (.lookupswitch dflt ps, len)) (hp : (ps.toList.zip (ps.toList.drop 1)).all (fun (a, next) => a.1 < next.1) = true) (ho : Op.lookupswitch.offset ps.toList dflt x.toInt = off) (ht : (pc : Int) + off = (tgt : Int)) (k : Q l own cc nL d mc ms G tgt lf st h ce sl) : Q l own cc nL d mc ms G pc lf (.int x :: st) h ce sl := by
  intro p e R s m args below meth c D dA θ A QQ H locs ls cx g wd hl
  exact lv_lookup cx.1 cx.2.1 hd hp ho ht (k p e R s m args below meth c D dA θ A QQ H locs ls cx g wd hl)
theorem R_fconst0 (hd : decode cc pc = .ok (.fconst 0, 1)) (k : Q l own cc nL d mc ms G (pc + 1) lf (.float FP.fconst0 :: st) h ce sl) : Q l own cc nL d mc ms G pc lf st h ce sl := by
  intro p e R s m args below meth c D dA θ A QQ H locs ls cx g wd hl
  exact lv_fconst0 cx.1 cx.2.1 hd (k p e R s m args below meth c D dA θ A QQ H locs ls cx g wd hl)
theorem R_fconst1 (hd : decode cc pc = .ok (.fconst 1, 1)) (k : Q l own cc nL d mc ms G (pc + 1) lf (.float FP.fconst1 :: st) h ce sl) : Q l own cc nL d mc ms G pc lf st h ce sl := by
  intro p e R s m args below meth c D dA θ A QQ H locs ls cx g wd hl
  exact lv_fconst1 cx.1 cx.2.1 hd (k p e R s m args below meth c D dA θ A QQ H locs ls cx g wd hl)
theorem R_fconst2 (hd : decode cc pc = .ok (.fconst 2, 1)) (k : Q l own cc nL d mc ms G (pc + 1) lf (.float FP.fconst2 :: st) h ce sl) : Q l own cc nL d mc ms G pc lf st h ce sl := by
  intro p e R s m args below meth c D dA θ A QQ H locs ls cx g wd hl
  exact lv_fconst2 cx.1 cx.2.1 hd (k p e R s m args below meth c D dA θ A QQ H locs ls cx g wd hl)
theorem R_dconst0 (hd : decode cc pc = .ok (.dconst 0, 1)) (k : Q l own cc nL d mc ms G (pc + 1) lf (.double FP.dconst0 :: st) h ce sl) : Q l own cc nL d mc ms G pc lf st h ce sl := by
  intro p e R s m args below meth c D dA θ A QQ H locs ls cx g wd hl
  exact lv_dconst0 cx.1 cx.2.1 hd (k p e R s m args below meth c D dA θ A QQ H locs ls cx g wd hl)
theorem R_dstore {i : Nat} {x : UInt64} (hd : decode cc pc = .ok (.dstore i, 2)) (hn : i + 1 < nL) (hs : stO lf i (.double x) lf') (h2 : lf' (i + 1) = none) (k : Q l own cc nL d mc ms G (pc + 2) lf' st h ce sl) : Q l own cc nL d mc ms G pc lf (.double x :: st) h ce sl := by
  intro p e R s m args below meth c D dA θ A QQ H locs ls cx g wd hl
  refine lv_dstore cx.1 cx.2.1 hd hl hn rfl (fun ls9 hl9 => k p e R s m args below meth c D dA θ A QQ H locs ls9 cx g wd ⟨hl9.1, hl9.2.1, fun q hq => hl9.2.2 q ?_⟩)
  obtain ⟨h1, v, h2', h3⟩ := lcv_mem.mp hq
  by_cases he : q.1 = i
  · rw [he, hs.1] at h2'
    cases h2'
    exact List.mem_cons.mpr (Or.inl (by obtain ⟨a, b⟩ := q; dsimp only at he h3 ⊢; rw [he, h3]; rfl))
  · obtain ⟨h4, h5⟩ := hs.2 _ _ he h2'
    have h7 : q.1 ≠ i + 1 := fun e9 => by rw [e9, h2] at h2'; cases h2'
    refine List.mem_cons_of_mem _ (List.mem_filter.mpr ⟨lcv_mem.mpr ⟨h1, v, h4, h3⟩, ?_⟩)
    have h6 : ¬ (q.1 + 1 = i ∧ q.2.category = 2) := fun ⟨e1, e2⟩ => by rw [h3, cvV_cat, h5 e1] at e2; cases e2
    simp only [Bool.and_eq_true, Bool.not_eq_true', beq_eq_false_iff_ne, Bool.and_eq_false_iff, ne_eq]
    refine ⟨he, h7, ?_⟩
    by_cases e1 : q.1 + 1 = i
    · exact Or.inr (fun e2 => h6 ⟨e1, by simpa using e2⟩)
    · exact Or.inl (by simpa using e1)
theorem R_i2f {x : Int32} (hd : decode cc pc = .ok (.i2f, 1)) (k : Q l own cc nL d mc ms G (pc + 1) lf (.float (FP.i2f x) :: st) h ce sl) : Q l own cc nL d mc ms G pc lf (.int x :: st) h ce sl := by
  intro p e R s m args below meth c D dA θ A QQ H locs ls cx g wd hl
  exact lv_i2f cx.1 cx.2.1 hd (k p e R s m args below meth c D dA θ A QQ H locs ls cx g wd hl)
theorem R_i2d {x : Int32} (hd : decode cc pc = .ok (.i2d, 1)) (k : Q l own cc nL d mc ms G (pc + 1) lf (.double (FP.i2d x) :: st) h ce sl) : Q l own cc nL d mc ms G pc lf (.int x :: st) h ce sl := by
  intro p e R s m args below meth c D dA θ A QQ H locs ls cx g wd hl
  exact lv_i2d cx.1 cx.2.1 hd (k p e R s m args below meth c D dA θ A QQ H locs ls cx g wd hl)
theorem R_f2i {x : UInt32} (hd : decode cc pc = .ok (.f2i, 1)) (k : Q l own cc nL d mc ms G (pc + 1) lf (.int (FP.f2i x) :: st) h ce sl) : Q l own cc nL d mc ms G pc lf (.float x :: st) h ce sl := by
  intro p e R s m args below meth c D dA θ A QQ H locs ls cx g wd hl
  exact lv_f2i cx.1 cx.2.1 hd (k p e R s m args below meth c D dA θ A QQ H locs ls cx g wd hl)
theorem R_fdiv {x y : UInt32} (hd : decode cc pc = .ok (.fdiv, 1)) (hne : vf_n32 (FP.fdiv x y)) (k : Q l own cc nL d mc ms G (pc + 1) lf (.float (FP.fdiv x y) :: st) h ce sl) : Q l own cc nL d mc ms G pc lf (.float y :: .float x :: st) h ce sl := by
  intro p e R s m args below meth c D dA θ A QQ H locs ls cx g wd hl
  exact lv_fdiv cx.1 cx.2.1 hd hne (k p e R s m args below meth c D dA θ A QQ H locs ls cx g wd hl)
theorem R_fmul {x y : UInt32} (hd : decode cc pc = .ok (.fmul, 1)) (hne : vf_n32 (FP.fmul x y)) (k : Q l own cc nL d mc ms G (pc + 1) lf (.float (FP.fmul x y) :: st) h ce sl) : Q l own cc nL d mc ms G pc lf (.float y :: .float x :: st) h ce sl := by
  intro p e R s m args below meth c D dA θ A QQ H locs ls cx g wd hl
  exact lv_fmul cx.1 cx.2.1 hd hne (k p e R s m args below meth c D dA θ A QQ H locs ls cx g wd hl)
theorem R_fsub {x y : UInt32} (hd : decode cc pc = .ok (.fsub, 1)) (hne : vf_n32 (FP.fsub x y)) (k : Q l own cc nL d mc ms G (pc + 1) lf (.float (FP.fsub x y) :: st) h ce sl) : Q l own cc nL d mc ms G pc lf (.float y :: .float x :: st) h ce sl := by
  intro p e R s m args below meth c D dA θ A QQ H locs ls cx g wd hl
  exact lv_fsub cx.1 cx.2.1 hd hne (k p e R s m args below meth c D dA θ A QQ H locs ls cx g wd hl)
theorem R_ddiv {x y : UInt64} (hd : decode cc pc = .ok (.ddiv, 1)) (hne : vf_n64 (FP.ddiv x y)) (k : Q l own cc nL d mc ms G (pc + 1) lf (.double (FP.ddiv x y) :: st) h ce sl) : Q l own cc nL d mc ms G pc lf (.double y :: .double x :: st) h ce sl := by
  intro p e R s m args below meth c D dA θ A QQ H locs ls cx g wd hl
  exact lv_ddiv cx.1 cx.2.1 hd hne (k p e R s m args below meth c D dA θ A QQ H locs ls cx g wd hl)
theorem R_fcmp {x y : UInt32} {op : CmpOp} (hd : decode cc pc = .ok (.fcmp op, 1)) (k : Q l own cc nL d mc ms G (pc + 1) lf (.int (Op.cmpValue (FP.fcmp x y) op) :: st) h ce sl) : Q l own cc nL d mc ms G pc lf (.float y :: .float x :: st) h ce sl := by
  intro p e R s m args below meth c D dA θ A QQ H locs ls cx g wd hl
  exact lv_fcmp cx.1 cx.2.1 hd (k p e R s m args below meth c D dA θ A QQ H locs ls cx g wd hl)
theorem R_dcmp {x y : UInt64} {op : CmpOp} (hd : decode cc pc = .ok (.dcmp op, 1)) (k : Q l own cc nL d mc ms G (pc + 1) lf (.int (Op.cmpValue (FP.dcmp x y) op) :: st) h ce sl) : Q l own cc nL d mc ms G pc lf (.double y :: .double x :: st) h ce sl := by
  intro p e R s m args below meth c D dA θ A QQ H locs ls cx g wd hl
  exact lv_dcmp cx.1 cx.2.1 hd (k p e R s m args below meth c D dA θ A QQ H locs ls cx g wd hl)
end RW
end
section
def clsOK (ci : Nat) (C : String) (T : u_T) (N : Nat) (ty : Nat → FieldType) : Prop :=
  CLs[ci]? = some (C, T, N) ∧ (∀ w ∈ u_ws C T N, w ∈ TG) ∧ (∀ k, k < N → parseFieldDescriptor (T k).2.2.1 = some (ty k)) ∧ ∀ a, a < N → ∀ b, b < N → a ≠ b → (T a).2.1 ≠ (T b).2.1
theorem cok0 : clsOK 0 RX0 TX0 9 tyX0 := ⟨rfl, by decide +kernel, tyX0_ok, nmX0⟩
theorem cok1 : clsOK 1 RX1 TX1 2 tyX1 := ⟨rfl, by decide +kernel, tyX1_ok, nmX1⟩
theorem cok2 : clsOK 2 RX2 TX2 2 tyX2 := ⟨rfl, by decide +kernel, tyX2_ok, nmX2⟩
theorem cok3 : clsOK 3 RX3 TX3 10 tyX3 := ⟨rfl, by decide +kernel, tyX3_ok, nmX3⟩
theorem cok4 : clsOK 4 RX4 TX4 2 tyX4 := ⟨rfl, by decide +kernel, tyX4_ok, nmX4⟩
theorem cok5 : clsOK 5 RX5 TX5 5 tyX5 := ⟨rfl, by decide +kernel, tyX5_ok, nmX5⟩
theorem cok6 : clsOK 6 RX6 TX6 9 tyX6 := ⟨rfl, by decide +kernel, tyX6_ok, nmX6⟩
theorem cok7 : clsOK 7 RX7 TX7 2 tyX7 := ⟨rfl, by decide +kernel, tyX7_ok, nmX7⟩
theorem cok8 : clsOK 8 RX8 TX8 2 tyX8 := ⟨rfl, by decide +kernel, tyX8_ok, nmX8⟩
theorem cok9 : clsOK 9 RX9 TX9 10 tyX9 := ⟨rfl, by decide +kernel, tyX9_ok, nmX9⟩
theorem cok10 : clsOK 10 RX10 TX10 21 tyX10 := ⟨rfl, by decide +kernel, tyX10_ok, nmX10⟩
section RH
variable {l : Launch} {own : String} {cc : ByteArray} {nL d mc ms : Nat} {G : GT} {pc : Nat} {lf lf' : Nat → Option Value} {st : List Value} {h : HP} {ce sl : Nat}
theorem R_get {ci : Nat} {C : String} {T : u_T} {N : Nat} {ty : Nat → FieldType} {a k idx : Nat} {fs : List Value} {v : Value} (ok : clsOK ci C T N ty) (hk : k < N) (hw : Cond.fieldLink own idx (T k).1 (T k).2.1 (T k).2.2.1 ∈ TG)
    (hd : decode cc pc = .ok (.getfield idx, 3)) (ha : h.2 a = .inr (ci, fs)) (hN : a < h.1) (hv : fs[k]? = some v) (kk : Q l own cc nL d mc ms G (pc + 3) lf (v :: st) h ce sl) : Q l own cc nL d mc ms G pc lf (.ref a :: st) h ce sl := by
  intro p e R s m args below meth c D dA θ A QQ H locs ls cx g wd hl
  exact va_get cx.1 cx.2.1 cx.2.2.2.2.1 ok.2.1 cx.2.2.2.1 wd.1 wd.2.1 a (fs := fs.map (cvV θ)) (by rw [ws_at θ dA hN, ha]; rfl) ok.1 k hk (cx.2.2.2.2.1 _ hw) (fun _ q => q) (by rw [List.getElem?_map, hv]; rfl) hd (kk p e R s m args below meth c D dA θ A QQ H locs ls cx g wd hl)
theorem R_put {ci : Nat} {C : String} {T : u_T} {N : Nat} {ty : Nat → FieldType} {a k idx : Nat} {fs : List Value} {x : Int32} (ok : clsOK ci C T N ty) (hk : k < N) (hw : Cond.fieldLink own idx (T k).1 (T k).2.1 (T k).2.2.1 ∈ TG) (hfin : (T k).2.2.2 = false)
    (hn : narrow (ty k) (.int x) = .int x) (hfit : fits (ty k) (.int x) = true) (hd : decode cc pc = .ok (.putfield idx, 3)) (ha : h.2 a = .inr (ci, fs)) (hN : a < h.1) (hl9 : k < fs.length) (kk : Q l own cc nL d mc ms G (pc + 3) lf st (hset h a (.inr (ci, fs.set k (.int x)))) ce sl) : Q l own cc nL d mc ms G pc lf (.int x :: .ref a :: st) h ce sl := by
  intro p e R s m args below meth c D dA θ A QQ H locs ls cx g wd hl
  refine va_put (ty := ty k) cx.1 cx.2.1 cx.2.2.2.2.1 ok.2.1 ty ok.2.2.1 ok.2.2.2 cx.2.2.2.1 wd.1 wd.2.1 wd.2.2.1 wd.2.2.2 a (fs := fs.map (cvV θ)) (by rw [ws_at θ dA hN, ha]; rfl) ok.1 k hk (cx.2.2.2.2.1 _ hw) (fun _ q => q) hfin (ok.2.2.1 k hk) hn hfit (by rw [List.length_map]; exact hl9) hd (fun H1 locs1 hP hD hS => ?_)
  have he : (θ a, (Sum.inr (ci, (fs.map (cvV θ)).set k (cvV θ (.int x))) : va_E)) = (θ a, cvE θ dA (.inr (ci, fs.set k (.int x)))) := by simp [cvE, List.map_set, cvV]
  rw [he, ws_set θ dA hN] at hP hD
  exact kk p e R s m args below meth c D dA θ A QQ H1 locs1 ls cx g ⟨wd.1, hP, hD, hS⟩ hl
/-- a final field of references, in a constructor -/
theorem R_putF {ci : Nat} {C : String} {T : u_T} {N : Nat} {ty : Nat → FieldType} {a k idx x : Nat} {fs : List Value} (ok : clsOK ci C T N ty) (hk : k < N) (hw : Cond.fieldLink own idx (T k).1 (T k).2.1 (T k).2.2.1 ∈ TG) (hfin : (T k).2.2.2 = true) (hdecl : (T k).1 = own)
    (hn : ∀ y, narrow (ty k) (.ref y) = .ref y) (hfit : ∀ y, fits (ty k) (.ref y) = true) (hd : decode cc pc = .ok (.putfield idx, 3)) (ha : h.2 a = .inr (ci, fs)) (hN : a < h.1) (hl9 : k < fs.length)
    (hG : ∀ p e R s m args below meth c D dA θ A QQ, G p e R s m args below meth c D dA θ A QQ → meth.name = "<init>")
    (kk : Q l own cc nL d mc ms G (pc + 3) lf st (hset h a (.inr (ci, fs.set k (.ref x)))) ce sl) : Q l own cc nL d mc ms G pc lf (.ref x :: .ref a :: st) h ce sl := by
  intro p e R s m args below meth c D dA θ A QQ H locs ls cx g wd hl
  refine va_putF (ty := ty k) (v := .ref (θ x)) cx.1 cx.2.1 cx.2.2.2.2.1 ok.2.1 ty ok.2.2.1 ok.2.2.2 cx.2.2.2.1 wd.1 wd.2.1 wd.2.2.1 wd.2.2.2 a (fs := fs.map (cvV θ)) (by rw [ws_at θ dA hN, ha]; rfl) ok.1 k hk (cx.2.2.2.2.1 _ hw) (fun _ q => q) hfin (hG _ _ _ _ _ _ _ _ _ _ _ _ _ _ g) hdecl (ok.2.2.1 k hk) (hn _) (hfit _) (by rw [List.length_map]; exact hl9) hd (fun H1 locs1 hP hD hS => ?_)
  have he : (θ a, (Sum.inr (ci, (fs.map (cvV θ)).set k (.ref (θ x))) : va_E)) = (θ a, cvE θ dA (.inr (ci, fs.set k (.ref x)))) := by simp [cvE, List.map_set, cvV]
  rw [he, ws_set θ dA hN] at hP hD
  exact kk p e R s m args below meth c D dA θ A QQ H1 locs1 ls cx g ⟨wd.1, hP, hD, hS⟩ hl
theorem R_iald {a n : Nat} {f : Nat → Int32} {i : Int32} (hd : decode cc pc = .ok (.iaload, 1)) (ha : h.2 a = .inl (1, n, .inl f)) (hN : a < h.1) (hi : vp_in i n) (kk : Q l own cc nL d mc ms G (pc + 1) lf (.int (f i.toNatClampNeg) :: st) h ce sl) : Q l own cc nL d mc ms G pc lf (.int i :: .ref a :: st) h ce sl := by
  intro p e R s m args below meth c D dA θ A QQ H locs ls cx g wd hl
  exact va_iald cx.1 cx.2.1 wd.1 wd.2.1 a 1 (by rw [ws_at θ dA hN, ha]; rfl) rfl hi hd (kk p e R s m args below meth c D dA θ A QQ H locs ls cx g wd hl)
theorem R_cald {a n : Nat} {f : Nat → Int32} {i : Int32} (hd : decode cc pc = .ok (.caload, 1)) (ha : h.2 a = .inl (0, n, .inl f)) (hN : a < h.1) (hi : vp_in i n) (kk : Q l own cc nL d mc ms G (pc + 1) lf (.int (f i.toNatClampNeg) :: st) h ce sl) : Q l own cc nL d mc ms G pc lf (.int i :: .ref a :: st) h ce sl := by
  intro p e R s m args below meth c D dA θ A QQ H locs ls cx g wd hl
  exact va_cald cx.1 cx.2.1 wd.1 wd.2.1 a 0 (by rw [ws_at θ dA hN, ha]; rfl) rfl hi hd (kk p e R s m args below meth c D dA θ A QQ H locs ls cx g wd hl)
theorem R_lald {a n : Nat} {f : Nat → Int64} {i : Int32} (hd : decode cc pc = .ok (.laload, 1)) (ha : h.2 a = .inl (4, n, .inr (.inl f))) (hN : a < h.1) (hi : vp_in i n) (kk : Q l own cc nL d mc ms G (pc + 1) lf (.long (f i.toNatClampNeg) :: st) h ce sl) : Q l own cc nL d mc ms G pc lf (.int i :: .ref a :: st) h ce sl := by
  intro p e R s m args below meth c D dA θ A QQ H locs ls cx g wd hl
  exact va_lald cx.1 cx.2.1 wd.1 wd.2.1 a 4 (by rw [ws_at θ dA hN, ha]; rfl) rfl hi hd (kk p e R s m args below meth c D dA θ A QQ H locs ls cx g wd hl)
theorem R_dald {a n : Nat} {f : Nat → UInt64} {i : Int32} (hd : decode cc pc = .ok (.daload, 1)) (ha : h.2 a = .inl (5, n, .inr (.inr (.inr (.inl f))))) (hN : a < h.1) (hi : vp_in i n) (kk : Q l own cc nL d mc ms G (pc + 1) lf (.double (f i.toNatClampNeg) :: st) h ce sl) : Q l own cc nL d mc ms G pc lf (.int i :: .ref a :: st) h ce sl := by
  intro p e R s m args below meth c D dA θ A QQ H locs ls cx g wd hl
  exact va_dald cx.1 cx.2.1 wd.1 wd.2.1 a 5 (by rw [ws_at θ dA hN, ha]; rfl) rfl hi hd (kk p e R s m args below meth c D dA θ A QQ H locs ls cx g wd hl)
theorem R_iast {a n : Nat} {f : Nat → Int32} {i : Int32} {x : Int32} (hd : decode cc pc = .ok (.iastore, 1)) (ha : h.2 a = .inl (1, n, .inl f)) (hN : a < h.1) (hi : vp_in i n) (kk : Q l own cc nL d mc ms G (pc + 1) lf st (hset h a (.inl (1, n, .inl (upd f i.toNatClampNeg x)))) ce sl) : Q l own cc nL d mc ms G pc lf (.int x :: .int i :: .ref a :: st) h ce sl := by
  intro p e R s m args below meth c D dA θ A QQ H locs ls cx g wd hl
  refine va_iast cx.1 cx.2.1 wd.1 wd.2.1 wd.2.2.1 wd.2.2.2 a 1 (by rw [ws_at θ dA hN, ha]; rfl) rfl hi hd (fun H1 locs1 hP hD hS => ?_)
  have hP' : va_P D CLs ((wsH θ dA h).set a (θ a, cvE θ dA (.inl (1, n, .inl (upd f i.toNatClampNeg x))))) H1 := hP
  have hD' : va_D A ((wsH θ dA h).set a (θ a, cvE θ dA (.inl (1, n, .inl (upd f i.toNatClampNeg x))))) := hD
  rw [ws_set θ dA hN] at hP' hD'
  exact kk p e R s m args below meth c D dA θ A QQ H1 locs1 ls cx g ⟨wd.1, hP', hD', hS⟩ hl
theorem R_cast {a n : Nat} {f : Nat → Int32} {i : Int32} {x : Int32} (hd : decode cc pc = .ok (.castore, 1)) (ha : h.2 a = .inl (0, n, .inl f)) (hN : a < h.1) (hi : vp_in i n) (kk : Q l own cc nL d mc ms G (pc + 1) lf st (hset h a (.inl (0, n, .inl (upd f i.toNatClampNeg (vp_nar .char x))))) ce sl) : Q l own cc nL d mc ms G pc lf (.int x :: .int i :: .ref a :: st) h ce sl := by
  intro p e R s m args below meth c D dA θ A QQ H locs ls cx g wd hl
  refine va_cast cx.1 cx.2.1 wd.1 wd.2.1 wd.2.2.1 wd.2.2.2 a 0 (by rw [ws_at θ dA hN, ha]; rfl) rfl hi hd (fun H1 locs1 hP hD hS => ?_)
  have hP' : va_P D CLs ((wsH θ dA h).set a (θ a, cvE θ dA (.inl (0, n, .inl (upd f i.toNatClampNeg (vp_nar .char x)))))) H1 := hP
  have hD' : va_D A ((wsH θ dA h).set a (θ a, cvE θ dA (.inl (0, n, .inl (upd f i.toNatClampNeg (vp_nar .char x)))))) := hD
  rw [ws_set θ dA hN] at hP' hD'
  exact kk p e R s m args below meth c D dA θ A QQ H1 locs1 ls cx g ⟨wd.1, hP', hD', hS⟩ hl
theorem R_last {a n : Nat} {f : Nat → Int64} {i : Int32} {x : Int64} (hd : decode cc pc = .ok (.lastore, 1)) (ha : h.2 a = .inl (4, n, .inr (.inl f))) (hN : a < h.1) (hi : vp_in i n) (kk : Q l own cc nL d mc ms G (pc + 1) lf st (hset h a (.inl (4, n, .inr (.inl (vp_updL f i.toNatClampNeg x))))) ce sl) : Q l own cc nL d mc ms G pc lf (.long x :: .int i :: .ref a :: st) h ce sl := by
  intro p e R s m args below meth c D dA θ A QQ H locs ls cx g wd hl
  refine va_last cx.1 cx.2.1 wd.1 wd.2.1 wd.2.2.1 wd.2.2.2 a 4 (by rw [ws_at θ dA hN, ha]; rfl) rfl hi hd (fun H1 locs1 hP hD hS => ?_)
  have hP' : va_P D CLs ((wsH θ dA h).set a (θ a, cvE θ dA (.inl (4, n, .inr (.inl (vp_updL f i.toNatClampNeg x)))))) H1 := hP
  have hD' : va_D A ((wsH θ dA h).set a (θ a, cvE θ dA (.inl (4, n, .inr (.inl (vp_updL f i.toNatClampNeg x)))))) := hD
  rw [ws_set θ dA hN] at hP' hD'
  exact kk p e R s m args below meth c D dA θ A QQ H1 locs1 ls cx g ⟨wd.1, hP', hD', hS⟩ hl
theorem R_dast {a n : Nat} {f : Nat → UInt64} {i : Int32} {x : UInt64} (hd : decode cc pc = .ok (.dastore, 1)) (ha : h.2 a = .inl (5, n, .inr (.inr (.inr (.inl f))))) (hN : a < h.1) (hi : vp_in i n) (kk : Q l own cc nL d mc ms G (pc + 1) lf st (hset h a (.inl (5, n, .inr (.inr (.inr (.inl (vf_upd f i.toNatClampNeg x))))))) ce sl) : Q l own cc nL d mc ms G pc lf (.double x :: .int i :: .ref a :: st) h ce sl := by
  intro p e R s m args below meth c D dA θ A QQ H locs ls cx g wd hl
  refine va_dast cx.1 cx.2.1 wd.1 wd.2.1 wd.2.2.1 wd.2.2.2 a 5 (by rw [ws_at θ dA hN, ha]; rfl) rfl hi hd (fun H1 locs1 hP hD hS => ?_)
  have hP' : va_P D CLs ((wsH θ dA h).set a (θ a, cvE θ dA (.inl (5, n, .inr (.inr (.inr (.inl (vf_upd f i.toNatClampNeg x)))))))) H1 := hP
  have hD' : va_D A ((wsH θ dA h).set a (θ a, cvE θ dA (.inl (5, n, .inr (.inr (.inr (.inl (vf_upd f i.toNatClampNeg x)))))))) := hD
  rw [ws_set θ dA hN] at hP' hD'
  exact kk p e R s m args below meth c D dA θ A QQ H1 locs1 ls cx g ⟨wd.1, hP', hD', hS⟩ hl
theorem R_aald {a n t b : Nat} {C : String} {f : Nat → Option Nat} {i : Int32} (ht : ∀ dA, (tysA dA)[t]? = some (dA t, .object C)) (hd : decode cc pc = .ok (.aaload, 1)) (ha : h.2 a = .inl (t, n, .inr (.inr (.inr (.inr f))))) (hN : a < h.1) (hi : vp_in i n) (hb : f i.toNatClampNeg = some b) (kk : Q l own cc nL d mc ms G (pc + 1) lf (.ref b :: st) h ce sl) : Q l own cc nL d mc ms G pc lf (.int i :: .ref a :: st) h ce sl := by
  intro p e R s m args below meth c D dA θ A QQ H locs ls cx g wd hl
  refine va_aldq cx.1 cx.2.1 wd.1 wd.2.1 a t (f := fun k => (f k).map θ) (by rw [ws_at θ dA hN, ha]; rfl) (ht dA) hi hd ?_
  rw [hb]
  exact kk p e R s m args below meth c D dA θ A QQ H locs ls cx g wd hl
theorem R_aast {a n t ci v : Nat} {r : vw_C} {vs : List Value} {f : Nat → Option Nat} {i : Int32} (ht : ∀ dA, (tysA dA)[t]? = some (dA t, .object r.1)) (hd : decode cc pc = .ok (.aastore, 1)) (ha : h.2 a = .inl (t, n, .inr (.inr (.inr (.inr f))))) (hN : a < h.1) (hv : h.2 v = .inr (ci, vs)) (hvN : v < h.1) (hc : CLs[ci]? = some r) (hi : vp_in i n)
    (kk : Q l own cc nL d mc ms G (pc + 1) lf st (hset h a (.inl (t, n, .inr (.inr (.inr (.inr (va_up f i.toNatClampNeg (some v)))))))) ce sl) : Q l own cc nL d mc ms G pc lf (.ref v :: .int i :: .ref a :: st) h ce sl := by
  intro p e R s m args below meth c D dA θ A QQ H locs ls cx g wd hl
  refine va_astq cx.1 cx.2.1 wd.1 wd.2.1 wd.2.2.1 wd.2.2.2 a t v ci (f := fun k => (f k).map θ) (vs := vs.map (cvV θ)) (by rw [ws_at θ dA hN, ha]; rfl) (ht dA) (by rw [ws_at θ dA hvN, hv]; rfl) hc hi hd (fun H1 locs1 hP hD hS => ?_)
  have he : (θ a, (Sum.inl (dA t, n, .inr (.inr (.inr (.inr (va_up (fun k => (f k).map θ) i.toNatClampNeg (some (θ v))))))) : va_E)) = (θ a, cvE θ dA (.inl (t, n, .inr (.inr (.inr (.inr (va_up f i.toNatClampNeg (some v)))))))) := by
    have h9 : va_up (fun k => (f k).map θ) i.toNatClampNeg (some (θ v)) = fun k => (va_up f i.toNatClampNeg (some v) k).map θ := by
      funext k
      by_cases hk : k = i.toNatClampNeg <;> simp [va_up, hk]
    rw [h9]
    rfl
  rw [he, ws_set θ dA hN] at hP hD
  exact kk p e R s m args below meth c D dA θ A QQ H1 locs1 ls cx g ⟨wd.1, hP, hD, hS⟩ hl
theorem R_alen {a n t : Nat} {ty : FieldType} {x : vp_A} {v : Int32} (ht : ∀ dA, (tysA dA)[t]? = some (dA t, ty)) (hd : decode cc pc = .ok (.arraylength, 1)) (ha : h.2 a = .inl (t, x)) (hN : a < h.1) (hx : x.1 = n) (hv : Int32.ofNat n = v) (kk : Q l own cc nL d mc ms G (pc + 1) lf (.int v :: st) h ce sl) : Q l own cc nL d mc ms G pc lf (.ref a :: st) h ce sl := by
  intro p e R s m args below meth c D dA θ A QQ H locs ls cx g wd hl
  have hcv : (cvA θ x).1 = n := by
    rw [← hx]
    obtain ⟨n0, f⟩ := x
    rcases f with f | f | f | f | f <;> rfl
  exact va_alen cx.1 cx.2.1 wd.1 wd.2.1 a t (x := cvA θ x) (by rw [ws_at θ dA hN, ha]; rfl) (ht dA) (by rw [hcv]; exact hv) hd (kk p e R s m args below meth c D dA θ A QQ H locs ls cx g wd hl)
/-! contracts -/
def rmD (d mc ms : Nat) : Room := { frames := d, cells := mc, slots := ms, locals := 64 * d }
def BM (D : va_G) (dA : Nat → ClassId) (θ : Nat → Nat) (h : HP) (sz : Nat) (U : State) : Prop :=
  U.heap.size = sz ∧ va_P D CLs (wsH θ dA h) U.heap ∧ va_K D CLs (tysA dA) U ∧ va_D (fun _ => True) (wsH θ dA h) ∧ vx_Zq Bundle.tN "UNASSIGNED_STACK" Bundle.steD (va_A (wsH θ dA h) sz) U U.heap ∧ vx_Zq Bundle.tN "SUPPRESSED_SENTINEL" Bundle.listD (va_A (wsH θ dA h) sz) U U.heap
def QcM (Z : Option Value ⊕ String → HP → Prop) (D : va_G) (dA : Nat → ClassId) (θ : Nat → Nat) (A : Nat → Prop) : Array Value → State → Outcome → State → Prop := fun _ s oc t =>
  (∃ v h1, oc = .returned (v.map (cvV θ)) ∧ Z (.inl v) h1 ∧ va_P D CLs (wsH θ dA h1) t.heap ∧ va_D A (wsH θ dA h1)) ∧ va_F A s t
def XcM (Z : Option Value ⊕ String → HP → Prop) (D : va_G) (dA : Nat → ClassId) (θ : Nat → Nat) (A : Nat → Prop) : String → State → State → Prop := fun E s t =>
  (∃ h1, Z (.inr E) h1 ∧ va_P D CLs (wsH θ dA h1) t.heap ∧ va_D A (wsH θ dA h1)) ∧ va_F A s t
def VM (l : Launch) (y : MethodName) (cc : ByteArray) (nL : Nat) (ret : Option FieldType) (d mc ms : Nat) (As : List Value) (h : HP) (Z : Option Value ⊕ String → HP → Prop) : Prop :=
  ∀ (D : va_G) (dA : Nat → ClassId) (θ : Nat → Nat) (sz : Nat), vx_Met l y (.code y cc nL ret :: TG) (rmD d mc ms) (va_Pc (As.map (cvV θ)) (BM D dA θ h sz)) (QcM Z D dA θ (va_A (wsH θ dA h) sz)) (XcM Z D dA θ (va_A (wsH θ dA h) sz)) mc ms (va_A (wsH θ dA h) sz)
def GM (ret : Option FieldType) (mc ms : Nat) (Z : Option Value ⊕ String → HP → Prop) : GT := fun _ _ _ s _ args below meth c D dA θ A QQ =>
  meth.sig.returnType = ret ∧ meth.locks = false ∧ (∀ x ∈ c.exceptionTable.toList, False) ∧ QQ = vx_MQ below (QcM Z D dA θ A) (XcM Z D dA θ A) args s mc ms A
set_option maxRecDepth 20000 in
theorem VM.intro {y : MethodName} {ret : Option FieldType} {As : List Value} {Z : Option Value ⊕ String → HP → Prop} {lf : Nat → Option Value} (hy : plainName y.cls = true) (hf : l.stackTraces = false) (hsz : ∀ θ, (lg_sl (As.map (cvV θ))).length ≤ nL) (hlf : ∀ θ, lcv θ lf = lv_args 0 (As.map (cvV θ)))
    (k : Q l y.cls cc nL d mc ms (GM ret mc ms Z) 0 lf [] h 0 0) : VM l y cc nL ret d mc ms As h Z := by
  intro D dA θ sz
  refine vx_ofW (cc := cc) (maxL := nL) (ret := ret) hy rfl ?_
  intro p e s m args below meth c s₁ B hml ht hv
  obtain ⟨rfl, hsz0, hP, hK, hD0, hU, hN⟩ := hv
  subst hsz0
  have hts := atoms_spec (ws := .code y cc nL ret :: TG) B.pre
  have hts' : ∀ w ∈ TG, w.before _ s = true := fun w hw => hts w (List.mem_cons_of_mem _ hw)
  have hown : s.vm.findClass y.cls = some m.cls := findClass_of_methodNamed B.named
  have hl := lv_entry (As.map (cvV θ)) (n := nL) (hsz θ)
  rw [lg_entry_eq]
  generalize (lg_sl (As.map (cvV θ)) ++ List.replicate (nL - (lg_sl (As.map (cvV θ))).length) Slot.unset).toArray = ls at hl ⊢
  rw [← hlf θ] at hl
  exact k p e _ s m _ below meth c D dA θ (va_A (wsH θ dA h) s.heap.size) _ s.heap [] ls ⟨B.exec, B.bytes, hml, hown, hts', fun q hq => Or.inr hq, ⟨Nat.le_refl _, Nat.le_refl _, Nat.le_refl _, Nat.le_refl _⟩, hf, hU, hN⟩ ⟨B.returns, B.notSynchronized, ht, rfl⟩ ⟨hK, hP, hD0.self, va_S.rf⟩ hl
/-! ends -/
theorem R_iret {Z : Option Value ⊕ String → HP → Prop} {ty : FieldType} {v : Int32} (hd : decode cc pc = .ok (.ireturn, 1)) (hn : narrow ty (.int v) = .int v) (hc : ce ≤ mc) (hs : sl ≤ ms) (hz : Z (.inl (some (.int v))) h) : Q l own cc nL d mc ms (GM (some ty) mc ms Z) pc lf [.int v] h ce sl := by
  intro p e R s m args below meth c D dA θ A QQ H locs ls cx g wd hl
  obtain ⟨g1, g2, g3, rfl⟩ := g
  refine vx_ret (W.widen hc hs ?_)
  exact W.zret (v := v) cx.1 cx.2.1 g1 hn (fun t ht hW => ⟨⟨some (.int v), h, rfl, hz, by rw [ht]; exact wd.2.1, wd.2.2.1⟩, wd.2.2.2.F ht⟩) wd.2.2.2.2.2 hd
theorem R_vret {Z : Option Value ⊕ String → HP → Prop} (hd : decode cc pc = .ok (.return_, 1)) (hc : ce ≤ mc) (hs : sl ≤ ms) (hz : Z (.inl none) h) : Q l own cc nL d mc ms (GM none mc ms Z) pc lf [] h ce sl := by
  intro p e R s m args below meth c D dA θ A QQ H locs ls cx g wd hl
  obtain ⟨g1, g2, g3, rfl⟩ := g
  refine vx_ret (W.widen hc hs ?_)
  exact W.vret cx.1 cx.2.1 g1 (fun t ht hW => ⟨⟨none, h, rfl, hz, by rw [ht]; exact wd.2.1, wd.2.2.1⟩, wd.2.2.2.F ht⟩) wd.2.2.2.2.2 hd
theorem R_aret {Z : Option Value ⊕ String → HP → Prop} {C : String} {v : Nat} (hd : decode cc pc = .ok (.areturn, 1)) (hc : ce ≤ mc) (hs : sl ≤ ms) (hz : Z (.inl (some (.ref v))) h) : Q l own cc nL d mc ms (GM (some (.object C)) mc ms Z) pc lf [.ref v] h ce sl := by
  intro p e R s m args below meth c D dA θ A QQ H locs ls cx g wd hl
  obtain ⟨g1, g2, g3, rfl⟩ := g
  refine vx_ret (W.widen hc hs ?_)
  exact W.aret (v := .ref (θ v)) cx.1 cx.2.1 g1 (Or.inl ⟨C, rfl⟩) (Or.inr ⟨_, rfl⟩) (fun t ht hW => ⟨⟨some (.ref v), h, rfl, hz, by rw [ht]; exact wd.2.1, wd.2.2.1⟩, wd.2.2.2.F ht⟩) wd.2.2.2.2.2 hd
theorem R_dret {Z : Option Value ⊕ String → HP → Prop} {v : UInt64} (hd : decode cc pc = .ok (.dreturn, 1)) (hc : ce ≤ mc) (hs : sl ≤ ms) (hz : Z (.inl (some (.double v))) h) : Q l own cc nL d mc ms (GM (some .double) mc ms Z) pc lf [.double v] h ce sl := by
  intro p e R s m args below meth c D dA θ A QQ H locs ls cx g wd hl
  obtain ⟨g1, g2, g3, rfl⟩ := g
  refine vx_ret (W.widen hc hs ?_)
  exact W.dret (v := v) cx.1 cx.2.1 g1 (fun t ht hW => ⟨⟨some (.double v), h, rfl, hz, by rw [ht]; exact wd.2.1, wd.2.2.1⟩, wd.2.2.2.F ht⟩) wd.2.2.2.2.2 hd
/-! throws -/
abbrev nmE : List String := ["java/lang/RuntimeException", "java/lang/Exception"]
def THW (own : String) (ik ic : Nat) (E : String) : Prop := Bundle.fit E = true ∧ .classLink own ik E ∈ TG ∧ .initialized E ∈ TG ∧ (∀ w ∈ vx_at0 own ic E nmE, w ∈ TG) ∧ ∀ w ∈ Cond.classLink own ik E :: Cond.initialized E :: vx_at0 own ic E nmE, vx_ot w = true
theorem nmE_fit : ∀ n ∈ nmE, Bundle.fit n = true := by decide +kernel
theorem va_P.stay {D : va_G} {cl : List vw_C} {ws : va_W} {H H1 : Heap} (hP : va_P D cl ws H) (hk : ∀ q, q < H.size → H1[q]? = H[q]?) : va_P D cl ws H1 := fun k q hq => (hP k q hq).kept (hk q.1 (hP k q hq).lt)
theorem R_throw {Z : Option Value ⊕ String → HP → Prop} {ret : Option FieldType} {E : String} {ik ic : Nat} (tw : THW own ik ic E) (d0 : decode cc pc = .ok (.new ik, 3)) (d3 : decode cc (pc + 3) = .ok (.dup, 1)) (d4 : decode cc (pc + 4) = .ok (.invokespecial ic, 3)) (d7 : decode cc (pc + 7) = .ok (.athrow, 1))
    (hdd : 6 ≤ d) (hc : ce + 1 ≤ mc) (hs : sl + 6 ≤ ms) (hst : (st.map fun v => v.category).sum ≤ 100) (hz : Z (.inr E) h) : Q l own cc nL d mc ms (GM ret mc ms Z) pc lf st h ce sl := by
  intro p e R s m args below meth c D dA θ A QQ H locs ls cx g wd hl
  obtain ⟨g1, g2, g3, rfl⟩ := g
  obtain ⟨t1, t2, t3, t4, t5⟩ := tw
  obtain ⟨x1, x2, x3, x4, x5, x6, ⟨x7, x8, x9, x10⟩, x11, x12, x13⟩ := cx
  have hcat : ((st.map (cvV θ)).map fun v => v.category) = st.map fun v => v.category := by
    rw [List.map_map]; exact List.map_congr_left fun v _ => cvV_cat θ v
  refine vx_throw0 (names := nmE) x1 x2 x11 x4 t1 nmE_fit (x5 _ t2) (x5 _ t3) (fun w hw => x5 w (t4 w hw)) t5 x12 x13 wd.2.2.2 (hl.1.trans x3.symm) d0 d3 d4 d7 (fun x hx => (g3 x hx).elim) (by show 2 + 3 < R.frames; omega) (by rw [hcat]; show _ + (13 * (2 + 1) + 42) ≤ R.locals; omega) (by omega) (by omega) g2 (fun t hvm hz1 hk => ?_) wd.2.2.2.2.2 hc hs
  exact ⟨⟨h, hz, wd.2.1.stay hk, wd.2.2.1⟩, ⟨Nat.le_trans wd.2.2.2.1 hz1, fun q q1 q2 => (hk q (Nat.lt_of_lt_of_le q1 wd.2.2.2.1)).trans (wd.2.2.2.2.1 q q1 q2)⟩⟩
theorem R_prop {Z : Option Value ⊕ String → HP → Prop} {ret : Option FieldType} {E : String} (hc : ce ≤ mc) (hs : sl ≤ ms) (hz : Z (.inr E) h) : QX l own cc nL d mc ms (GM ret mc ms Z) E pc lf st h ce sl := by
  intro p e R s m args below meth c D dA θ A QQ H locs ls q9 ce9 cx g wd hl h1 h2 h3
  obtain ⟨g1, g2, g3, rfl⟩ := g
  exact vx_out (fun x hx => (g3 x hx).elim) g2 h1 h2 h3 (fun t ht hvm => ⟨⟨h, hz, by rw [ht]; exact wd.2.1, wd.2.2.1⟩, wd.2.2.2.F ht⟩) wd.2.2.2.2.2 hc hs
/-! calls -/
theorem free_in {θ : Nat → Nat} {dA : Nat → ClassId} {A : Nat → Prop} {D : va_G} {s : State} {H : Heap} {locs : List Loc} (hA : ∀ q, s.heap.size ≤ q → A q) (wd : WD D dA θ A h s H locs) : ∀ q, va_A (wsH θ dA h) H.size q → A q := by
  intro q hq
  rcases hq with ⟨k, e, hk⟩ | hq
  · exact wd.2.2.1.2 k _ hk
  · exact hA q (Nat.le_trans wd.2.2.2.1 hq)
theorem BM_of {p : Program} {R : Room} {s U : State} {m : MethodId} {args : Array Value} {c : Code} {D : va_G} {dA : Nat → ClassId} {θ : Nat → Nat} {A : Nat → Prop} {H : Heap} {locs : List Loc} (cx : CX l own cc nL d mc ms p R s m args c A) (wd : WD D dA θ A h s H locs) (hU : U.heap = H) (hvm : s.vm.Alike U.vm) : BM D dA θ h H.size U := by
  obtain ⟨x1, x2, x3, x4, x5, x6, x7, x11, x12, x13⟩ := cx
  have hf := free_in x6 wd
  refine ⟨by rw [hU], by rw [hU]; exact wd.2.1, va_K.moved hvm wd.1, wd.2.2.1.weaken (fun _ _ _ _ => trivial), ?_, ?_⟩
  · rw [hU]
    exact vx_Zq.moved hvm ((x12.kept wd.2.2.2.2.1).narrow hf)
  · rw [hU]
    exact vx_Zq.moved hvm ((x13.kept wd.2.2.2.2.1).narrow hf)
theorem BM_blind {D : va_G} {dA : Nat → ClassId} {θ : Nat → Nat} {As : List Value} {sz : Nat} : FrameBlind (va_Pc As (BM D dA θ h sz)) := by
  rintro a U g mk ⟨q0, q1, qP, qK, qD, qU, qN⟩
  exact ⟨q0, q1, qP, va_K.moved (u := U) (U := U.calling g mk a) (Vm.Alike.refl U.vm) qK, qD, vx_Zq.moved (u := U) (U := U.calling g mk a) (Vm.Alike.refl U.vm) qU, vx_Zq.moved (u := U) (U := U.calling g mk a) (Vm.Alike.refl U.vm) qN⟩
/-- what a run of a callee leaves, for the caller -/
theorem R_after {p : Program} {e : Env} {R : Room} {s : State} {m : MethodId} {args : Array Value} {below : List Frame} {meth : Method} {c : Code} {D : va_G} {dA : Nat → ClassId} {θ : Nat → Nat} {A : Nat → Prop} {QQ : State → Prop} {H : Heap} {locs : List Loc} {ls : Array Slot} {a9 : Array Value}
    {Z : Option Value ⊕ String → HP → Prop} {mc' ms' : Nat} {stk : List Value} (cx : CX l own cc nL d mc ms p R s m args c A) (g : G p e R s m args below meth c D dA θ A QQ) (wd : WD D dA θ A h s H locs) (hl : lv_has ls nL (lcv θ lf))
    (hr : vx_Run p l e R s m args below meth c H locs ce sl mc' ms' (F0 m pc ls stk) (st.map (cvV θ)) (QcM Z D dA θ (va_A (wsH θ dA h) H.size) a9) (XcM Z D dA θ (va_A (wsH θ dA h) H.size)) (va_A (wsH θ dA h) H.size))
    (kk : ∀ v h1, Z (.inl v) h1 → Q l own cc nL d mc ms G (pc + 3) lf (v.toList ++ st) h1 (ce + mc') (sl + ms'))
    (kx : ∀ E h1, Z (.inr E) h1 → QX l own cc nL d mc ms G E pc lf st h1 (ce + mc') (sl + ms')) : W p l e R s m args below meth c H locs ce sl QQ (F0 m pc ls stk) := by
  have hf := free_in cx.2.2.2.2.2.1 wd
  intro T hT X
  rcases hr T hT X with ⟨v, st₀, t, T', L, h0, X', hL, e1, e2, ⟨⟨v0, h1, hv, hz, hP1, hD1⟩, hF⟩, stp⟩ | ⟨q, st₀, t, T', L, E, ce9, h0, X', hL, e1, e2, ⟨⟨h1, hz, hP1, hD1⟩, hF⟩, hce, hcv, hcl, stp⟩
  · cases hv
    obtain ⟨k1, k2, k3⟩ := vx_keep h0 e1 wd.2.2.2 (fun q _ z => hf q z) hf hL hF
    obtain ⟨t2, a1, b1⟩ := kk v0 h1 hz p e R s m args below meth c D dA θ A QQ T'.heap (locs ++ L) ls cx g ⟨wd.1, by rw [e1]; exact hP1, hD1.weaken (fun k q _ z => hf q.1 z), k3⟩ hl T' rfl X'
    refine ⟨t2, stp t2 ?_, b1⟩
    cases v0 <;> exact a1
  · obtain ⟨k1, k2, k3⟩ := vx_keep h0 e1 wd.2.2.2 (fun q _ z => hf q z) hf hL hF
    obtain ⟨t2, a1, b1⟩ := kx E h1 hz p e R s m args below meth c D dA θ A QQ T'.heap (locs ++ L) ls q ce9 cx g ⟨wd.1, by rw [e1]; exact hP1, hD1.weaken (fun k q _ z => hf q.1 z), k3⟩ hl (by rw [e1]; exact hce) hcv hcl T' rfl X'
    exact ⟨t2, stp.trans a1, b1⟩
def CWV (own : String) (idx : Nat) (y : MethodName) (bytes : ByteArray) (maxL : Nat) (ret : Option FieldType) (n : Nat) : Prop :=
  .methodLink own idx y ∈ TG ∧ .instanceMethod y ∈ TG ∧ .selects y.cls y y ∈ TG ∧ .initialized y.cls ∈ TG ∧ .code y bytes maxL ret ∈ TG ∧ (y.cls = y.cls ∧ y.cls ≠ "java/lang/invoke/MethodHandle" ∧ y.cls ≠ "java/lang/invoke/VarHandle" ∧ (parseMethodDescriptor y.desc).map (fun d => d.parameters.length) = some n) ∧ maxL ≤ 40
def CWS (own : String) (idx : Nat) (y : MethodName) (bytes : ByteArray) (maxL : Nat) (ret : Option FieldType) (n : Nat) : Prop :=
  .methodLink own idx y ∈ TG ∧ .static y ∈ TG ∧ .initialized own ∈ TG ∧ .code y bytes maxL ret ∈ TG ∧ (y.cls = own ∧ y.cls ≠ "java/lang/invoke/MethodHandle" ∧ y.cls ≠ "java/lang/invoke/VarHandle" ∧ (parseMethodDescriptor y.desc).map (fun d => d.parameters.length) = some n) ∧ maxL ≤ 40
def CWN (own : String) (idx : Nat) (y : MethodName) (host : String) (bytes : ByteArray) (maxL : Nat) (ret : Option FieldType) (n : Nat) : Prop :=
  .methodLinkNest own idx y host ∈ TG ∧ .static y ∈ TG ∧ .initialized y.cls ∈ TG ∧ .code y bytes maxL ret ∈ TG ∧ (y.cls ≠ "java/lang/invoke/MethodHandle" ∧ y.cls ≠ "java/lang/invoke/VarHandle" ∧ (parseMethodDescriptor y.desc).map (fun d => d.parameters.length) = some n) ∧ maxL ≤ 40
theorem TG_good {w : Cond} (h : w ∈ TG) : w ∈ TG ∧ ((w.onTables && w.keeps) = true ∨ ∃ ty, w = .arrayClass ty) := ⟨h, good_of_word (List.mem_filter.mp h).2⟩
theorem TG_in {ws : List Cond} (h : ∀ w ∈ ws, w ∈ TG) : GoodIn TG ws := fun w hw => TG_good (h w hw)
theorem cat_sum (θ : Nat → Nat) (L : List Value) : ((L.map (cvV θ)).map fun v => v.category).sum = (L.map fun v => v.category).sum := by
  rw [List.map_map]
  exact congrArg List.sum (List.map_congr_left fun v _ => cvV_cat θ v)
theorem R_callV {y : MethodName} {bytes : ByteArray} {maxL idx d' mc' ms' n a ci : Nat} {ret : Option FieldType} {As : List Value} {fs : List Value} {T : u_T} {N : Nat} {stk : List Value} {Z : Option Value ⊕ String → HP → Prop}
    (cw : CWV own idx y bytes maxL ret n) (hM : VM l y bytes maxL ret d' mc' ms' (.ref a :: As) h Z) (hd : decode cc pc = .ok (.invokevirtual idx, 3)) (hcl : CLs[ci]? = some (y.cls, T, N)) (ha : h.2 a = .inr (ci, fs)) (hN : a < h.1)
    (hdd : d' + 1 ≤ d) (hmc : ce + mc' ≤ mc) (hms : sl + ms' ≤ ms) (hn : As.length = n) (hstk : stk = As.reverse ++ .ref a :: st) (hcat : (st.map fun v => v.category).sum ≤ 8)
    (kk : ∀ v h1, Z (.inl v) h1 → Q l own cc nL d mc ms G (pc + 3) lf (v.toList ++ st) h1 (ce + mc') (sl + ms'))
    (kx : ∀ E h1, Z (.inr E) h1 → QX l own cc nL d mc ms G E pc lf st h1 (ce + mc') (sl + ms')) : Q l own cc nL d mc ms G pc lf stk h ce sl := by
  subst hstk
  intro p e R s m args below meth c D dA θ A QQ H locs ls cx g wd hl
  obtain ⟨w1, w2, w3, w4, w5, w6, w7⟩ := cw
  obtain ⟨x1, x2, x3, x4, x5, x6, ⟨x7, x8, x9, x10⟩, x11, x12, x13⟩ := id cx
  have hG : GoodIn TG (wsV own idx y.cls y (.code y bytes maxL ret :: TG)) := TG_in fun w hw => by
    rcases List.mem_append.mp hw with hw | hw
    · simp only [List.mem_cons, List.not_mem_nil, or_false] at hw
      rcases hw with rfl | rfl | rfl | rfl <;> assumption
    · rcases List.mem_cons.mp hw with rfl | hw
      · exact w5
      · exact hw
  have hcw := cwV (R := R) (s := s) (args := args) (own := own) (C := y.cls) (index := idx) (y := y) (bytes := bytes) (maxL := maxL) (ret := ret) (rm := rmD d' mc' ms') (mc := mc') (ms := ms') n x5 hG rfl rfl rfl w6 ⟨by show d' + 1 ≤ R.frames; omega, by show 8 + (maxL + 11) + 64 * d' ≤ R.locals; omega⟩
  refine R_after (a9 := (Value.ref (θ a) :: As.map (cvV θ)).toArray) cx g wd hl ?_ kk kx
  refine vx_runV (As := As.map (cvV θ)) ⟨x1, x2, x3, x4, x5⟩ (hM D dA θ H.size) hcw ⟨BM_blind, va_recv wd.1 wd.2.1 hcl (q0 := a) (fs := fs.map (cvV θ)) (by rw [ws_at θ dA hN, ha]; rfl), fun U hU hW => ⟨rfl, BM_of cx wd hU hW.alike⟩⟩ rfl (by rw [List.length_map]; exact hn) hl.1 (by simp [cvV]) (by show 2 * 0 + _ ≤ 8; rw [cat_sum]; omega) hd ⟨by omega, by omega⟩
theorem R_callS {y : MethodName} {bytes : ByteArray} {maxL idx d' mc' ms' n : Nat} {ret : Option FieldType} {As : List Value} {stk : List Value} {Z : Option Value ⊕ String → HP → Prop}
    (cw : CWS own idx y bytes maxL ret n) (hM : VM l y bytes maxL ret d' mc' ms' As h Z) (hd : decode cc pc = .ok (.invokestatic idx, 3))
    (hdd : d' + 1 ≤ d) (hmc : ce + mc' ≤ mc) (hms : sl + ms' ≤ ms) (hn : As.length = n) (hstk : stk = As.reverse ++ st) (hcat : (st.map fun v => v.category).sum ≤ 8)
    (kk : ∀ v h1, Z (.inl v) h1 → Q l own cc nL d mc ms G (pc + 3) lf (v.toList ++ st) h1 (ce + mc') (sl + ms'))
    (kx : ∀ E h1, Z (.inr E) h1 → QX l own cc nL d mc ms G E pc lf st h1 (ce + mc') (sl + ms')) : Q l own cc nL d mc ms G pc lf stk h ce sl := by
  subst hstk
  intro p e R s m args below meth c D dA θ A QQ H locs ls cx g wd hl
  obtain ⟨w1, w2, w4, w5, w6, w7⟩ := cw
  obtain ⟨x1, x2, x3, x4, x5, x6, ⟨x7, x8, x9, x10⟩, x11, x12, x13⟩ := id cx
  have hG : GoodIn TG (wsS own idx y (.code y bytes maxL ret :: TG)) := TG_in fun w hw => by
    rcases List.mem_append.mp hw with hw | hw
    · simp only [List.mem_cons, List.not_mem_nil, or_false] at hw
      rcases hw with rfl | rfl | rfl <;> assumption
    · rcases List.mem_cons.mp hw with rfl | hw
      · exact w5
      · exact hw
  have hcw := cwS (R := R) (s := s) (args := args) (own := own) (index := idx) (y := y) (bytes := bytes) (maxL := maxL) (ret := ret) (rm := rmD d' mc' ms') (mc := mc') (ms := ms') n x5 hG rfl rfl rfl w6 ⟨by show d' + 1 ≤ R.frames; omega, by show 8 + (maxL + 11) + 64 * d' ≤ R.locals; omega⟩
  refine R_after (a9 := (As.map (cvV θ)).toArray) cx g wd hl ?_ kk kx
  exact vx_runS (As := As.map (cvV θ)) ⟨x1, x2, x3, x4, x5⟩ (hM D dA θ H.size) hcw ⟨BM_blind, fun U hU hW => ⟨rfl, BM_of cx wd hU hW.alike⟩⟩ rfl (by rw [List.length_map]; exact hn) hl.1 (by simp) (by show 2 * 0 + _ ≤ 8; rw [cat_sum]; omega) hd ⟨by omega, by omega⟩
/-- a contract that never throws, as the kit's plain one -/
theorem VM.plain {y : MethodName} {bytes : ByteArray} {maxL d' mc' ms' : Nat} {ret : Option FieldType} {As : List Value} {Z : Option Value ⊕ String → HP → Prop} (hM : VM l y bytes maxL ret d' mc' ms' As h Z) (hZ : ∀ E h1, ¬ Z (.inr E) h1) (D : va_G) (dA : Nat → ClassId) (θ : Nat → Nat) (sz : Nat) :
    Met l y (.code y bytes maxL ret :: TG) (rmD d' mc' ms') (va_Pc (As.map (cvV θ)) (BM D dA θ h sz)) (QcM Z D dA θ (va_A (wsH θ dA h) sz)) mc' ms' (va_A (wsH θ dA h) sz) := by
  have h0 := hM D dA θ sz
  intro p e a1 a2 a3 s m args below a4 a5 a6 a7
  obtain ⟨t, o, b1, b2, b3, b4⟩ := h0 p e a1 a2 a3 s m args below a4 a5 a6 a7
  refine ⟨t, o, b1, b2, b3, ?_⟩
  rcases b4 with b4 | ⟨q, -, E, ce9, L, ⟨⟨h1, hz, -⟩, -⟩, -⟩
  · exact b4
  · exact absurd hz (hZ E h1)
theorem vx_of_va {p : Program} {e : Env} {R : Room} {s : State} {m : MethodId} {args : Array Value} {below : List Frame} {meth : Method} {c : Code} {H : Heap} {locs : List Loc} {mc' ms' : Nat} {g : JFrame} {rest : List Value} {Qa : State → Outcome → State → Prop} {XC : String → State → State → Prop} {free : Addr → Prop}
    (hr : va_Run p l e R s m args below meth c H locs ce sl mc' ms' g rest Qa free) : vx_Run p l e R s m args below meth c H locs ce sl mc' ms' g rest Qa XC free := by
  intro T hT X
  obtain ⟨v, st₀, t, T', L, h0, X', hL, e1, e2, hq, stp⟩ := hr T hT X
  exact Or.inl ⟨v, st₀, t, T', L, h0, X', hL, e1, e2, hq, stp⟩
theorem R_callN {y : MethodName} {host : String} {bytes : ByteArray} {maxL idx d' mc' ms' n : Nat} {ret : Option FieldType} {As : List Value} {stk : List Value} {Z : Option Value ⊕ String → HP → Prop}
    (cw : CWN own idx y host bytes maxL ret n) (hM : VM l y bytes maxL ret d' mc' ms' As h Z) (hZ : ∀ E h1, ¬ Z (.inr E) h1) (hd : decode cc pc = .ok (.invokestatic idx, 3))
    (hdd : d' + 1 ≤ d) (hmc : ce + mc' ≤ mc) (hms : sl + ms' ≤ ms) (hn : As.length = n) (hstk : stk = As.reverse ++ st) (hcat : (st.map fun v => v.category).sum ≤ 8)
    (kk : ∀ v h1, Z (.inl v) h1 → Q l own cc nL d mc ms G (pc + 3) lf (v.toList ++ st) h1 (ce + mc') (sl + ms')) : Q l own cc nL d mc ms G pc lf stk h ce sl := by
  subst hstk
  intro p e R s m args below meth c D dA θ A QQ H locs ls cx g wd hl
  obtain ⟨w1, w2, w4, w5, w6, w7⟩ := cw
  obtain ⟨x1, x2, x3, x4, x5, x6, ⟨x7, x8, x9, x10⟩, x11, x12, x13⟩ := id cx
  have hG : GoodIn TG (.code y bytes maxL ret :: TG) := TG_in fun w hw => by
    rcases List.mem_cons.mp hw with rfl | hw
    · exact w5
    · exact hw
  have hcw := va_cnB (R := R) (s := s) (args := args) (own := own) (host := host) (index := idx) (y := y) (bytes := bytes) (maxL := maxL) (ret := ret) (rm := rmD d' mc' ms') (mc := mc') (ms := ms') n x5 hG rfl rfl rfl (va_Nw.of (x5 _ w1)) (x5 _ w4) w6 ⟨by show d' + 1 ≤ R.frames; omega, by show 8 + (maxL + 11) + 64 * d' ≤ R.locals; omega⟩
  refine R_after (a9 := (As.map (cvV θ)).toArray) cx g wd hl (vx_of_va ?_) kk (fun E h1 hz => absurd hz (hZ E h1))
  exact va_runSN (As := As.map (cvV θ)) ⟨x1, x2, x3, x4, x5⟩ (hM.plain hZ D dA θ H.size) ⟨hcw, x5 _ w2, trivial⟩ ⟨BM_blind, fun U hU hW => ⟨rfl, BM_of cx wd hU hW.alike⟩⟩ rfl (by rw [List.length_map]; exact hn) hl.1 (by simp) (by show 2 * 0 + _ ≤ 8; rw [cat_sum]; omega) hd ⟨by omega, by omega⟩
end RH
end
