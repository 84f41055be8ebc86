section
-- ===== PART A: goes FIRST, ahead of the names: the tables' words, and 'selects' of the private methods out of them =====
/-- a private method of a class that the tables say can be made, by its rows of tables_1 -/
def lw_okq (q : MethodName × Nat) : Prop := (q.1.cls ≠ "java/lang/invoke/MethodHandle" ∧ q.1.cls ≠ "java/lang/invoke/VarHandle") ∧ Cond.instantiable q.1.cls q.2 ∈ tables_1 ∧ Cond.privateMethod q.1 ∈ tables_1 ∧ Cond.instanceMethod q.1 ∈ tables_1
theorem lw_p0 : lw_okq (⟨"MuleTrain$Parser", "writeByte", "(I)V"⟩, 11) := ⟨⟨by decide +kernel, by decide +kernel⟩, List.mem_of_getElem? (i := 37) (by decide +kernel), List.mem_of_getElem? (i := 195) (by decide +kernel), List.mem_of_getElem? (i := 196) (by decide +kernel)⟩
theorem lw_p1 : lw_okq (⟨"MuleTrain$Parser", "beginText", "(I)V"⟩, 11) := ⟨⟨by decide +kernel, by decide +kernel⟩, List.mem_of_getElem? (i := 37) (by decide +kernel), List.mem_of_getElem? (i := 204) (by decide +kernel), List.mem_of_getElem? (i := 205) (by decide +kernel)⟩
theorem lw_p2 : lw_okq (⟨"MuleTrain$Parser", "parseHead", "()V"⟩, 11) := ⟨⟨by decide +kernel, by decide +kernel⟩, List.mem_of_getElem? (i := 37) (by decide +kernel), List.mem_of_getElem? (i := 216) (by decide +kernel), List.mem_of_getElem? (i := 217) (by decide +kernel)⟩
theorem lw_p3 : lw_okq (⟨"MuleTrain$Parser", "nextToken", "()V"⟩, 11) := ⟨⟨by decide +kernel, by decide +kernel⟩, List.mem_of_getElem? (i := 37) (by decide +kernel), List.mem_of_getElem? (i := 220) (by decide +kernel), List.mem_of_getElem? (i := 221) (by decide +kernel)⟩
theorem lw_p4 : lw_okq (⟨"MuleTrain$Parser", "skipBlanks", "()V"⟩, 11) := ⟨⟨by decide +kernel, by decide +kernel⟩, List.mem_of_getElem? (i := 37) (by decide +kernel), List.mem_of_getElem? (i := 224) (by decide +kernel), List.mem_of_getElem? (i := 225) (by decide +kernel)⟩
theorem lw_p5 : lw_okq (⟨"MuleTrain$Parser", "byteAt", "(I)I"⟩, 11) := ⟨⟨by decide +kernel, by decide +kernel⟩, List.mem_of_getElem? (i := 37) (by decide +kernel), List.mem_of_getElem? (i := 228) (by decide +kernel), List.mem_of_getElem? (i := 229) (by decide +kernel)⟩
theorem lw_p6 : lw_okq (⟨"MuleTrain$Parser", "passRun", "()V"⟩, 11) := ⟨⟨by decide +kernel, by decide +kernel⟩, List.mem_of_getElem? (i := 37) (by decide +kernel), List.mem_of_getElem? (i := 235) (by decide +kernel), List.mem_of_getElem? (i := 236) (by decide +kernel)⟩
theorem lw_p7 : lw_okq (⟨"MuleTrain$Parser", "isWord", "(Ljava/lang/String;)Z"⟩, 11) := ⟨⟨by decide +kernel, by decide +kernel⟩, List.mem_of_getElem? (i := 37) (by decide +kernel), List.mem_of_getElem? (i := 240) (by decide +kernel), List.mem_of_getElem? (i := 241) (by decide +kernel)⟩
theorem lw_p8 : lw_okq (⟨"MuleTrain$Parser", "noteError", "(I)V"⟩, 11) := ⟨⟨by decide +kernel, by decide +kernel⟩, List.mem_of_getElem? (i := 37) (by decide +kernel), List.mem_of_getElem? (i := 244) (by decide +kernel), List.mem_of_getElem? (i := 245) (by decide +kernel)⟩
theorem lw_p9 : lw_okq (⟨"MuleTrain$Parser", "parseNumber", "(II)I"⟩, 11) := ⟨⟨by decide +kernel, by decide +kernel⟩, List.mem_of_getElem? (i := 37) (by decide +kernel), List.mem_of_getElem? (i := 251) (by decide +kernel), List.mem_of_getElem? (i := 252) (by decide +kernel)⟩
theorem lw_p10 : lw_okq (⟨"MuleTrain$Parser", "endLine", "()V"⟩, 11) := ⟨⟨by decide +kernel, by decide +kernel⟩, List.mem_of_getElem? (i := 37) (by decide +kernel), List.mem_of_getElem? (i := 255) (by decide +kernel), List.mem_of_getElem? (i := 256) (by decide +kernel)⟩
theorem lw_p11 : lw_okq (⟨"MuleTrain$Parser", "parseMule", "()V"⟩, 11) := ⟨⟨by decide +kernel, by decide +kernel⟩, List.mem_of_getElem? (i := 37) (by decide +kernel), List.mem_of_getElem? (i := 260) (by decide +kernel), List.mem_of_getElem? (i := 261) (by decide +kernel)⟩
theorem lw_p12 : lw_okq (⟨"MuleTrain$Parser", "parseName", "()V"⟩, 11) := ⟨⟨by decide +kernel, by decide +kernel⟩, List.mem_of_getElem? (i := 37) (by decide +kernel), List.mem_of_getElem? (i := 268) (by decide +kernel), List.mem_of_getElem? (i := 269) (by decide +kernel)⟩
theorem lw_p13 : lw_okq (⟨"MuleTrain$Parser", "muleOfName", "()I"⟩, 11) := ⟨⟨by decide +kernel, by decide +kernel⟩, List.mem_of_getElem? (i := 37) (by decide +kernel), List.mem_of_getElem? (i := 272) (by decide +kernel), List.mem_of_getElem? (i := 273) (by decide +kernel)⟩
theorem lw_p14 : lw_okq (⟨"MuleTrain$Parser", "isNameOf", "(I)Z"⟩, 11) := ⟨⟨by decide +kernel, by decide +kernel⟩, List.mem_of_getElem? (i := 37) (by decide +kernel), List.mem_of_getElem? (i := 276) (by decide +kernel), List.mem_of_getElem? (i := 277) (by decide +kernel)⟩
theorem lw_p15 : lw_okq (⟨"MuleTrain$Parser", "parseSack", "()V"⟩, 11) := ⟨⟨by decide +kernel, by decide +kernel⟩, List.mem_of_getElem? (i := 37) (by decide +kernel), List.mem_of_getElem? (i := 300) (by decide +kernel), List.mem_of_getElem? (i := 301) (by decide +kernel)⟩
def lw_privs_1 : List (MethodName × Nat) := [(⟨"MuleTrain$Parser", "writeByte", "(I)V"⟩, 11), (⟨"MuleTrain$Parser", "beginText", "(I)V"⟩, 11), (⟨"MuleTrain$Parser", "parseHead", "()V"⟩, 11), (⟨"MuleTrain$Parser", "nextToken", "()V"⟩, 11), (⟨"MuleTrain$Parser", "skipBlanks", "()V"⟩, 11), (⟨"MuleTrain$Parser", "byteAt", "(I)I"⟩, 11), (⟨"MuleTrain$Parser", "passRun", "()V"⟩, 11), (⟨"MuleTrain$Parser", "isWord", "(Ljava/lang/String;)Z"⟩, 11), (⟨"MuleTrain$Parser", "noteError", "(I)V"⟩, 11), (⟨"MuleTrain$Parser", "parseNumber", "(II)I"⟩, 11), (⟨"MuleTrain$Parser", "endLine", "()V"⟩, 11), (⟨"MuleTrain$Parser", "parseMule", "()V"⟩, 11), (⟨"MuleTrain$Parser", "parseName", "()V"⟩, 11), (⟨"MuleTrain$Parser", "muleOfName", "()I"⟩, 11), (⟨"MuleTrain$Parser", "isNameOf", "(I)Z"⟩, 11), (⟨"MuleTrain$Parser", "parseSack", "()V"⟩, 11)]
theorem lw_r1 : ∀ q ∈ lw_privs_1, lw_okq q := List.forall_mem_cons.mpr ⟨lw_p0, List.forall_mem_cons.mpr ⟨lw_p1, List.forall_mem_cons.mpr ⟨lw_p2, List.forall_mem_cons.mpr ⟨lw_p3, List.forall_mem_cons.mpr ⟨lw_p4, List.forall_mem_cons.mpr ⟨lw_p5, List.forall_mem_cons.mpr ⟨lw_p6, List.forall_mem_cons.mpr ⟨lw_p7, List.forall_mem_cons.mpr ⟨lw_p8, List.forall_mem_cons.mpr ⟨lw_p9, List.forall_mem_cons.mpr ⟨lw_p10, List.forall_mem_cons.mpr ⟨lw_p11, List.forall_mem_cons.mpr ⟨lw_p12, List.forall_mem_cons.mpr ⟨lw_p13, List.forall_mem_cons.mpr ⟨lw_p14, List.forall_mem_cons.mpr ⟨lw_p15, fun _ h => absurd h List.not_mem_nil⟩⟩⟩⟩⟩⟩⟩⟩⟩⟩⟩⟩⟩⟩⟩⟩
theorem lw_p16 : lw_okq (⟨"MuleTrain$Parser", "parseKind", "()I"⟩, 11) := ⟨⟨by decide +kernel, by decide +kernel⟩, List.mem_of_getElem? (i := 37) (by decide +kernel), List.mem_of_getElem? (i := 304) (by decide +kernel), List.mem_of_getElem? (i := 305) (by decide +kernel)⟩
theorem lw_p17 : lw_okq (⟨"MuleTrain$Parser", "parseStage", "(I)V"⟩, 11) := ⟨⟨by decide +kernel, by decide +kernel⟩, List.mem_of_getElem? (i := 37) (by decide +kernel), List.mem_of_getElem? (i := 319) (by decide +kernel), List.mem_of_getElem? (i := 320) (by decide +kernel)⟩
theorem lw_p18 : lw_okq (⟨"MuleTrain$Parser", "parsePack", "()V"⟩, 11) := ⟨⟨by decide +kernel, by decide +kernel⟩, List.mem_of_getElem? (i := 37) (by decide +kernel), List.mem_of_getElem? (i := 333) (by decide +kernel), List.mem_of_getElem? (i := 334) (by decide +kernel)⟩
theorem lw_p19 : lw_okq (⟨"MuleTrain$Parser", "parseSide", "()I"⟩, 11) := ⟨⟨by decide +kernel, by decide +kernel⟩, List.mem_of_getElem? (i := 37) (by decide +kernel), List.mem_of_getElem? (i := 349) (by decide +kernel), List.mem_of_getElem? (i := 350) (by decide +kernel)⟩
theorem lw_p20 : lw_okq (⟨"MuleTrain$Parser", "parseRest", "()V"⟩, 11) := ⟨⟨by decide +kernel, by decide +kernel⟩, List.mem_of_getElem? (i := 37) (by decide +kernel), List.mem_of_getElem? (i := 360) (by decide +kernel), List.mem_of_getElem? (i := 361) (by decide +kernel)⟩
theorem lw_p21 : lw_okq (⟨"MuleTrain$Train", "easeBy", "(II)V"⟩, 7) := ⟨⟨by decide +kernel, by decide +kernel⟩, List.mem_of_getElem? (i := 43) (by decide +kernel), List.mem_of_getElem? (i := 371) (by decide +kernel), List.mem_of_getElem? (i := 372) (by decide +kernel)⟩
theorem lw_p22 : lw_okq (⟨"MuleTrain$Train", "mulesWithSacks", "()I"⟩, 7) := ⟨⟨by decide +kernel, by decide +kernel⟩, List.mem_of_getElem? (i := 43) (by decide +kernel), List.mem_of_getElem? (i := 387) (by decide +kernel), List.mem_of_getElem? (i := 388) (by decide +kernel)⟩
theorem lw_p23 : lw_okq (⟨"MuleTrain$Train", "goRoad", "(II)V"⟩, 7) := ⟨⟨by decide +kernel, by decide +kernel⟩, List.mem_of_getElem? (i := 43) (by decide +kernel), List.mem_of_getElem? (i := 406) (by decide +kernel), List.mem_of_getElem? (i := 407) (by decide +kernel)⟩
theorem lw_p24 : lw_okq (⟨"MuleTrain$Train", "shedTo", "(II)Z"⟩, 7) := ⟨⟨by decide +kernel, by decide +kernel⟩, List.mem_of_getElem? (i := 43) (by decide +kernel), List.mem_of_getElem? (i := 411) (by decide +kernel), List.mem_of_getElem? (i := 412) (by decide +kernel)⟩
theorem lw_p25 : lw_okq (⟨"MuleTrain$Train", "leastOn", "(I)I"⟩, 7) := ⟨⟨by decide +kernel, by decide +kernel⟩, List.mem_of_getElem? (i := 43) (by decide +kernel), List.mem_of_getElem? (i := 415) (by decide +kernel), List.mem_of_getElem? (i := 416) (by decide +kernel)⟩
theorem lw_p26 : lw_okq (⟨"MuleTrain$Train", "crossFord", "(II)V"⟩, 7) := ⟨⟨by decide +kernel, by decide +kernel⟩, List.mem_of_getElem? (i := 43) (by decide +kernel), List.mem_of_getElem? (i := 423) (by decide +kernel), List.mem_of_getElem? (i := 424) (by decide +kernel)⟩
theorem lw_p27 : lw_okq (⟨"MuleTrain$Train", "wetSack", "(I)V"⟩, 7) := ⟨⟨by decide +kernel, by decide +kernel⟩, List.mem_of_getElem? (i := 43) (by decide +kernel), List.mem_of_getElem? (i := 431) (by decide +kernel), List.mem_of_getElem? (i := 432) (by decide +kernel)⟩
theorem lw_p28 : lw_okq (⟨"MuleTrain$Train", "deliverLoads", "()V"⟩, 7) := ⟨⟨by decide +kernel, by decide +kernel⟩, List.mem_of_getElem? (i := 43) (by decide +kernel), List.mem_of_getElem? (i := 435) (by decide +kernel), List.mem_of_getElem? (i := 436) (by decide +kernel)⟩
theorem lw_p29 : lw_okq (⟨"MuleTrain$Train", "payWages", "(I)V"⟩, 7) := ⟨⟨by decide +kernel, by decide +kernel⟩, List.mem_of_getElem? (i := 43) (by decide +kernel), List.mem_of_getElem? (i := 445) (by decide +kernel), List.mem_of_getElem? (i := 446) (by decide +kernel)⟩
theorem lw_p30 : lw_okq (⟨"java/lang/Throwable", "fillInStackTrace", "(I)Ljava/lang/Throwable;"⟩, 6) := ⟨⟨by decide +kernel, by decide +kernel⟩, List.mem_of_getElem? (i := 798) (by decide +kernel), List.mem_of_getElem? (i := 796) (by decide +kernel), List.mem_of_getElem? (i := 797) (by decide +kernel)⟩
theorem lw_p31 : lw_okq (⟨"MuleTrain", "requireSetting", "(I)V"⟩, 8) := ⟨⟨by decide +kernel, by decide +kernel⟩, List.mem_of_getElem? (i := 29) (by decide +kernel), List.mem_of_getElem? (i := 993) (by decide +kernel), List.mem_of_getElem? (i := 994) (by decide +kernel)⟩
def lw_privs_2 : List (MethodName × Nat) := [(⟨"MuleTrain$Parser", "parseKind", "()I"⟩, 11), (⟨"MuleTrain$Parser", "parseStage", "(I)V"⟩, 11), (⟨"MuleTrain$Parser", "parsePack", "()V"⟩, 11), (⟨"MuleTrain$Parser", "parseSide", "()I"⟩, 11), (⟨"MuleTrain$Parser", "parseRest", "()V"⟩, 11), (⟨"MuleTrain$Train", "easeBy", "(II)V"⟩, 7), (⟨"MuleTrain$Train", "mulesWithSacks", "()I"⟩, 7), (⟨"MuleTrain$Train", "goRoad", "(II)V"⟩, 7), (⟨"MuleTrain$Train", "shedTo", "(II)Z"⟩, 7), (⟨"MuleTrain$Train", "leastOn", "(I)I"⟩, 7), (⟨"MuleTrain$Train", "crossFord", "(II)V"⟩, 7), (⟨"MuleTrain$Train", "wetSack", "(I)V"⟩, 7), (⟨"MuleTrain$Train", "deliverLoads", "()V"⟩, 7), (⟨"MuleTrain$Train", "payWages", "(I)V"⟩, 7), (⟨"java/lang/Throwable", "fillInStackTrace", "(I)Ljava/lang/Throwable;"⟩, 6), (⟨"MuleTrain", "requireSetting", "(I)V"⟩, 8)]
theorem lw_r2 : ∀ q ∈ lw_privs_2, lw_okq q := List.forall_mem_cons.mpr ⟨lw_p16, List.forall_mem_cons.mpr ⟨lw_p17, List.forall_mem_cons.mpr ⟨lw_p18, List.forall_mem_cons.mpr ⟨lw_p19, List.forall_mem_cons.mpr ⟨lw_p20, List.forall_mem_cons.mpr ⟨lw_p21, List.forall_mem_cons.mpr ⟨lw_p22, List.forall_mem_cons.mpr ⟨lw_p23, List.forall_mem_cons.mpr ⟨lw_p24, List.forall_mem_cons.mpr ⟨lw_p25, List.forall_mem_cons.mpr ⟨lw_p26, List.forall_mem_cons.mpr ⟨lw_p27, List.forall_mem_cons.mpr ⟨lw_p28, List.forall_mem_cons.mpr ⟨lw_p29, List.forall_mem_cons.mpr ⟨lw_p30, List.forall_mem_cons.mpr ⟨lw_p31, fun _ h => absurd h List.not_mem_nil⟩⟩⟩⟩⟩⟩⟩⟩⟩⟩⟩⟩⟩⟩⟩⟩
theorem lw_p32 : lw_okq (⟨"MuleTrain", "requireMule", "(I)V"⟩, 8) := ⟨⟨by decide +kernel, by decide +kernel⟩, List.mem_of_getElem? (i := 29) (by decide +kernel), List.mem_of_getElem? (i := 1014) (by decide +kernel), List.mem_of_getElem? (i := 1015) (by decide +kernel)⟩
theorem lw_p33 : lw_okq (⟨"MuleTrain", "muleFact", "(II)I"⟩, 8) := ⟨⟨by decide +kernel, by decide +kernel⟩, List.mem_of_getElem? (i := 29) (by decide +kernel), List.mem_of_getElem? (i := 1035) (by decide +kernel), List.mem_of_getElem? (i := 1036) (by decide +kernel)⟩
theorem lw_p34 : lw_okq (⟨"MuleTrain", "requireSack", "(I)V"⟩, 8) := ⟨⟨by decide +kernel, by decide +kernel⟩, List.mem_of_getElem? (i := 29) (by decide +kernel), List.mem_of_getElem? (i := 1067) (by decide +kernel), List.mem_of_getElem? (i := 1068) (by decide +kernel)⟩
theorem lw_p35 : lw_okq (⟨"MuleTrain", "requireStage", "(I)V"⟩, 8) := ⟨⟨by decide +kernel, by decide +kernel⟩, List.mem_of_getElem? (i := 29) (by decide +kernel), List.mem_of_getElem? (i := 1080) (by decide +kernel), List.mem_of_getElem? (i := 1081) (by decide +kernel)⟩
theorem lw_p36 : lw_okq (⟨"MuleTrain", "offerSack", "(III)V"⟩, 8) := ⟨⟨by decide +kernel, by decide +kernel⟩, List.mem_of_getElem? (i := 29) (by decide +kernel), List.mem_of_getElem? (i := 1126) (by decide +kernel), List.mem_of_getElem? (i := 1127) (by decide +kernel)⟩
theorem lw_p37 : lw_okq (⟨"MuleTrain$Train", "isBetter", "(II)Z"⟩, 7) := ⟨⟨by decide +kernel, by decide +kernel⟩, List.mem_of_getElem? (i := 43) (by decide +kernel), List.mem_of_getElem? (i := 1143) (by decide +kernel), List.mem_of_getElem? (i := 1144) (by decide +kernel)⟩
theorem lw_p38 : lw_okq (⟨"MuleTrain", "requireOnMule", "(I)V"⟩, 8) := ⟨⟨by decide +kernel, by decide +kernel⟩, List.mem_of_getElem? (i := 29) (by decide +kernel), List.mem_of_getElem? (i := 1203) (by decide +kernel), List.mem_of_getElem? (i := 1204) (by decide +kernel)⟩
theorem lw_p39 : lw_okq (⟨"MuleTrain", "requireSlot", "(I)V"⟩, 8) := ⟨⟨by decide +kernel, by decide +kernel⟩, List.mem_of_getElem? (i := 29) (by decide +kernel), List.mem_of_getElem? (i := 1306) (by decide +kernel), List.mem_of_getElem? (i := 1307) (by decide +kernel)⟩
theorem lw_p40 : lw_okq (⟨"MuleTrain", "writeSide", "(II)V"⟩, 8) := ⟨⟨by decide +kernel, by decide +kernel⟩, List.mem_of_getElem? (i := 29) (by decide +kernel), List.mem_of_getElem? (i := 1338) (by decide +kernel), List.mem_of_getElem? (i := 1339) (by decide +kernel)⟩
theorem lw_p41 : lw_okq (⟨"MuleTrainModel", "begins", "(II)V"⟩, 25) := ⟨⟨by decide +kernel, by decide +kernel⟩, List.mem_of_getElem? (i := 1373) (by decide +kernel), List.mem_of_getElem? (i := 1379) (by decide +kernel), List.mem_of_getElem? (i := 1380) (by decide +kernel)⟩
theorem lw_p42 : lw_okq (⟨"MuleTrainModel", "brings", "(III)V"⟩, 25) := ⟨⟨by decide +kernel, by decide +kernel⟩, List.mem_of_getElem? (i := 1373) (by decide +kernel), List.mem_of_getElem? (i := 1386) (by decide +kernel), List.mem_of_getElem? (i := 1387) (by decide +kernel)⟩
theorem lw_p43 : lw_okq (⟨"MuleTrainModel", "leads", "(II)V"⟩, 25) := ⟨⟨by decide +kernel, by decide +kernel⟩, List.mem_of_getElem? (i := 1373) (by decide +kernel), List.mem_of_getElem? (i := 1393) (by decide +kernel), List.mem_of_getElem? (i := 1394) (by decide +kernel)⟩
theorem lw_p44 : lw_okq (⟨"MuleTrainModel", "packs", "(III)V"⟩, 25) := ⟨⟨by decide +kernel, by decide +kernel⟩, List.mem_of_getElem? (i := 1373) (by decide +kernel), List.mem_of_getElem? (i := 1400) (by decide +kernel), List.mem_of_getElem? (i := 1401) (by decide +kernel)⟩
theorem lw_p45 : lw_okq (⟨"MuleTrainModel", "refuse", "(I)I"⟩, 25) := ⟨⟨by decide +kernel, by decide +kernel⟩, List.mem_of_getElem? (i := 1373) (by decide +kernel), List.mem_of_getElem? (i := 1488) (by decide +kernel), List.mem_of_getElem? (i := 1489) (by decide +kernel)⟩
theorem lw_p46 : lw_okq (⟨"MuleTrainModel", "feeds", "(I)V"⟩, 25) := ⟨⟨by decide +kernel, by decide +kernel⟩, List.mem_of_getElem? (i := 1373) (by decide +kernel), List.mem_of_getElem? (i := 1492) (by decide +kernel), List.mem_of_getElem? (i := 1493) (by decide +kernel)⟩
theorem lw_p47 : lw_okq (⟨"MuleTrainModel", "told", "(I)I"⟩, 25) := ⟨⟨by decide +kernel, by decide +kernel⟩, List.mem_of_getElem? (i := 1373) (by decide +kernel), List.mem_of_getElem? (i := 1496) (by decide +kernel), List.mem_of_getElem? (i := 1497) (by decide +kernel)⟩
def lw_privs_3 : List (MethodName × Nat) := [(⟨"MuleTrain", "requireMule", "(I)V"⟩, 8), (⟨"MuleTrain", "muleFact", "(II)I"⟩, 8), (⟨"MuleTrain", "requireSack", "(I)V"⟩, 8), (⟨"MuleTrain", "requireStage", "(I)V"⟩, 8), (⟨"MuleTrain", "offerSack", "(III)V"⟩, 8), (⟨"MuleTrain$Train", "isBetter", "(II)Z"⟩, 7), (⟨"MuleTrain", "requireOnMule", "(I)V"⟩, 8), (⟨"MuleTrain", "requireSlot", "(I)V"⟩, 8), (⟨"MuleTrain", "writeSide", "(II)V"⟩, 8), (⟨"MuleTrainModel", "begins", "(II)V"⟩, 25), (⟨"MuleTrainModel", "brings", "(III)V"⟩, 25), (⟨"MuleTrainModel", "leads", "(II)V"⟩, 25), (⟨"MuleTrainModel", "packs", "(III)V"⟩, 25), (⟨"MuleTrainModel", "refuse", "(I)I"⟩, 25), (⟨"MuleTrainModel", "feeds", "(I)V"⟩, 25), (⟨"MuleTrainModel", "told", "(I)I"⟩, 25)]
theorem lw_r3 : ∀ q ∈ lw_privs_3, lw_okq q := List.forall_mem_cons.mpr ⟨lw_p32, List.forall_mem_cons.mpr ⟨lw_p33, List.forall_mem_cons.mpr ⟨lw_p34, List.forall_mem_cons.mpr ⟨lw_p35, List.forall_mem_cons.mpr ⟨lw_p36, List.forall_mem_cons.mpr ⟨lw_p37, List.forall_mem_cons.mpr ⟨lw_p38, List.forall_mem_cons.mpr ⟨lw_p39, List.forall_mem_cons.mpr ⟨lw_p40, List.forall_mem_cons.mpr ⟨lw_p41, List.forall_mem_cons.mpr ⟨lw_p42, List.forall_mem_cons.mpr ⟨lw_p43, List.forall_mem_cons.mpr ⟨lw_p44, List.forall_mem_cons.mpr ⟨lw_p45, List.forall_mem_cons.mpr ⟨lw_p46, List.forall_mem_cons.mpr ⟨lw_p47, fun _ h => absurd h List.not_mem_nil⟩⟩⟩⟩⟩⟩⟩⟩⟩⟩⟩⟩⟩⟩⟩⟩
theorem lw_p48 : lw_okq (⟨"MuleTrainModel", "putsAside", "()V"⟩, 25) := ⟨⟨by decide +kernel, by decide +kernel⟩, List.mem_of_getElem? (i := 1373) (by decide +kernel), List.mem_of_getElem? (i := 1507) (by decide +kernel), List.mem_of_getElem? (i := 1508) (by decide +kernel)⟩
theorem lw_p49 : lw_okq (⟨"MuleTrainModel", "readsText", "(I)V"⟩, 25) := ⟨⟨by decide +kernel, by decide +kernel⟩, List.mem_of_getElem? (i := 1373) (by decide +kernel), List.mem_of_getElem? (i := 1511) (by decide +kernel), List.mem_of_getElem? (i := 1512) (by decide +kernel)⟩
theorem lw_p50 : lw_okq (⟨"MuleTrainModel", "next", "()V"⟩, 25) := ⟨⟨by decide +kernel, by decide +kernel⟩, List.mem_of_getElem? (i := 1373) (by decide +kernel), List.mem_of_getElem? (i := 1515) (by decide +kernel), List.mem_of_getElem? (i := 1516) (by decide +kernel)⟩
theorem lw_p51 : lw_okq (⟨"MuleTrainModel", "isKey", "(I)Z"⟩, 25) := ⟨⟨by decide +kernel, by decide +kernel⟩, List.mem_of_getElem? (i := 1373) (by decide +kernel), List.mem_of_getElem? (i := 1525) (by decide +kernel), List.mem_of_getElem? (i := 1526) (by decide +kernel)⟩
theorem lw_p52 : lw_okq (⟨"MuleTrainModel", "errs", "(I)V"⟩, 25) := ⟨⟨by decide +kernel, by decide +kernel⟩, List.mem_of_getElem? (i := 1373) (by decide +kernel), List.mem_of_getElem? (i := 1529) (by decide +kernel), List.mem_of_getElem? (i := 1530) (by decide +kernel)⟩
theorem lw_p53 : lw_okq (⟨"MuleTrainModel", "takesNumber", "(II)I"⟩, 25) := ⟨⟨by decide +kernel, by decide +kernel⟩, List.mem_of_getElem? (i := 1373) (by decide +kernel), List.mem_of_getElem? (i := 1533) (by decide +kernel), List.mem_of_getElem? (i := 1534) (by decide +kernel)⟩
theorem lw_p54 : lw_okq (⟨"MuleTrainModel", "here", "(II)I"⟩, 25) := ⟨⟨by decide +kernel, by decide +kernel⟩, List.mem_of_getElem? (i := 1373) (by decide +kernel), List.mem_of_getElem? (i := 1537) (by decide +kernel), List.mem_of_getElem? (i := 1538) (by decide +kernel)⟩
theorem lw_p55 : lw_okq (⟨"MuleTrainModel", "goesOn", "()V"⟩, 25) := ⟨⟨by decide +kernel, by decide +kernel⟩, List.mem_of_getElem? (i := 1373) (by decide +kernel), List.mem_of_getElem? (i := 1541) (by decide +kernel), List.mem_of_getElem? (i := 1542) (by decide +kernel)⟩
theorem lw_p56 : lw_okq (⟨"MuleTrainModel", "readsLine", "()V"⟩, 25) := ⟨⟨by decide +kernel, by decide +kernel⟩, List.mem_of_getElem? (i := 1373) (by decide +kernel), List.mem_of_getElem? (i := 1545) (by decide +kernel), List.mem_of_getElem? (i := 1546) (by decide +kernel)⟩
theorem lw_p57 : lw_okq (⟨"MuleTrainModel", "readsStage", "(I)V"⟩, 25) := ⟨⟨by decide +kernel, by decide +kernel⟩, List.mem_of_getElem? (i := 1373) (by decide +kernel), List.mem_of_getElem? (i := 1549) (by decide +kernel), List.mem_of_getElem? (i := 1550) (by decide +kernel)⟩
theorem lw_p58 : lw_okq (⟨"MuleTrainModel", "readsMule", "()V"⟩, 25) := ⟨⟨by decide +kernel, by decide +kernel⟩, List.mem_of_getElem? (i := 1373) (by decide +kernel), List.mem_of_getElem? (i := 1553) (by decide +kernel), List.mem_of_getElem? (i := 1554) (by decide +kernel)⟩
theorem lw_p59 : lw_okq (⟨"MuleTrainModel", "isName", "()Z"⟩, 25) := ⟨⟨by decide +kernel, by decide +kernel⟩, List.mem_of_getElem? (i := 1373) (by decide +kernel), List.mem_of_getElem? (i := 1557) (by decide +kernel), List.mem_of_getElem? (i := 1558) (by decide +kernel)⟩
theorem lw_p60 : lw_okq (⟨"MuleTrainModel", "muleHere", "()I"⟩, 25) := ⟨⟨by decide +kernel, by decide +kernel⟩, List.mem_of_getElem? (i := 1373) (by decide +kernel), List.mem_of_getElem? (i := 1561) (by decide +kernel), List.mem_of_getElem? (i := 1562) (by decide +kernel)⟩
theorem lw_p61 : lw_okq (⟨"MuleTrainModel", "readsSack", "()V"⟩, 25) := ⟨⟨by decide +kernel, by decide +kernel⟩, List.mem_of_getElem? (i := 1373) (by decide +kernel), List.mem_of_getElem? (i := 1565) (by decide +kernel), List.mem_of_getElem? (i := 1566) (by decide +kernel)⟩
theorem lw_p62 : lw_okq (⟨"MuleTrainModel", "takesOneOf", "(II)I"⟩, 25) := ⟨⟨by decide +kernel, by decide +kernel⟩, List.mem_of_getElem? (i := 1373) (by decide +kernel), List.mem_of_getElem? (i := 1569) (by decide +kernel), List.mem_of_getElem? (i := 1570) (by decide +kernel)⟩
theorem lw_p63 : lw_okq (⟨"MuleTrainModel", "readsPack", "()V"⟩, 25) := ⟨⟨by decide +kernel, by decide +kernel⟩, List.mem_of_getElem? (i := 1373) (by decide +kernel), List.mem_of_getElem? (i := 1573) (by decide +kernel), List.mem_of_getElem? (i := 1574) (by decide +kernel)⟩
def lw_privs_4 : List (MethodName × Nat) := [(⟨"MuleTrainModel", "putsAside", "()V"⟩, 25), (⟨"MuleTrainModel", "readsText", "(I)V"⟩, 25), (⟨"MuleTrainModel", "next", "()V"⟩, 25), (⟨"MuleTrainModel", "isKey", "(I)Z"⟩, 25), (⟨"MuleTrainModel", "errs", "(I)V"⟩, 25), (⟨"MuleTrainModel", "takesNumber", "(II)I"⟩, 25), (⟨"MuleTrainModel", "here", "(II)I"⟩, 25), (⟨"MuleTrainModel", "goesOn", "()V"⟩, 25), (⟨"MuleTrainModel", "readsLine", "()V"⟩, 25), (⟨"MuleTrainModel", "readsStage", "(I)V"⟩, 25), (⟨"MuleTrainModel", "readsMule", "()V"⟩, 25), (⟨"MuleTrainModel", "isName", "()Z"⟩, 25), (⟨"MuleTrainModel", "muleHere", "()I"⟩, 25), (⟨"MuleTrainModel", "readsSack", "()V"⟩, 25), (⟨"MuleTrainModel", "takesOneOf", "(II)I"⟩, 25), (⟨"MuleTrainModel", "readsPack", "()V"⟩, 25)]
theorem lw_r4 : ∀ q ∈ lw_privs_4, lw_okq q := List.forall_mem_cons.mpr ⟨lw_p48, List.forall_mem_cons.mpr ⟨lw_p49, List.forall_mem_cons.mpr ⟨lw_p50, List.forall_mem_cons.mpr ⟨lw_p51, List.forall_mem_cons.mpr ⟨lw_p52, List.forall_mem_cons.mpr ⟨lw_p53, List.forall_mem_cons.mpr ⟨lw_p54, List.forall_mem_cons.mpr ⟨lw_p55, List.forall_mem_cons.mpr ⟨lw_p56, List.forall_mem_cons.mpr ⟨lw_p57, List.forall_mem_cons.mpr ⟨lw_p58, List.forall_mem_cons.mpr ⟨lw_p59, List.forall_mem_cons.mpr ⟨lw_p60, List.forall_mem_cons.mpr ⟨lw_p61, List.forall_mem_cons.mpr ⟨lw_p62, List.forall_mem_cons.mpr ⟨lw_p63, fun _ h => absurd h List.not_mem_nil⟩⟩⟩⟩⟩⟩⟩⟩⟩⟩⟩⟩⟩⟩⟩⟩
theorem lw_p64 : lw_okq (⟨"MuleTrainModel", "packReason", "(II)I"⟩, 25) := ⟨⟨by decide +kernel, by decide +kernel⟩, List.mem_of_getElem? (i := 1373) (by decide +kernel), List.mem_of_getElem? (i := 1577) (by decide +kernel), List.mem_of_getElem? (i := 1578) (by decide +kernel)⟩
theorem lw_p65 : lw_okq (⟨"MuleTrainModel", "loadOf", "(I)I"⟩, 25) := ⟨⟨by decide +kernel, by decide +kernel⟩, List.mem_of_getElem? (i := 1373) (by decide +kernel), List.mem_of_getElem? (i := 1581) (by decide +kernel), List.mem_of_getElem? (i := 1582) (by decide +kernel)⟩
theorem lw_p66 : lw_okq (⟨"MuleTrainModel", "weightOn", "(II)I"⟩, 25) := ⟨⟨by decide +kernel, by decide +kernel⟩, List.mem_of_getElem? (i := 1373) (by decide +kernel), List.mem_of_getElem? (i := 1585) (by decide +kernel), List.mem_of_getElem? (i := 1586) (by decide +kernel)⟩
theorem lw_p67 : lw_okq (⟨"MuleTrainModel", "isOn", "(II)Z"⟩, 25) := ⟨⟨by decide +kernel, by decide +kernel⟩, List.mem_of_getElem? (i := 1373) (by decide +kernel), List.mem_of_getElem? (i := 1589) (by decide +kernel), List.mem_of_getElem? (i := 1590) (by decide +kernel)⟩
theorem lw_p68 : lw_okq (⟨"MuleTrainModel", "weightOf", "(I)I"⟩, 25) := ⟨⟨by decide +kernel, by decide +kernel⟩, List.mem_of_getElem? (i := 1373) (by decide +kernel), List.mem_of_getElem? (i := 1593) (by decide +kernel), List.mem_of_getElem? (i := 1594) (by decide +kernel)⟩
theorem lw_p69 : lw_okq (⟨"MuleTrainModel", "bears", "(I)I"⟩, 25) := ⟨⟨by decide +kernel, by decide +kernel⟩, List.mem_of_getElem? (i := 1373) (by decide +kernel), List.mem_of_getElem? (i := 1597) (by decide +kernel), List.mem_of_getElem? (i := 1598) (by decide +kernel)⟩
theorem lw_p70 : lw_okq (⟨"MuleTrainModel", "readsTrip", "()V"⟩, 25) := ⟨⟨by decide +kernel, by decide +kernel⟩, List.mem_of_getElem? (i := 1373) (by decide +kernel), List.mem_of_getElem? (i := 1601) (by decide +kernel), List.mem_of_getElem? (i := 1602) (by decide +kernel)⟩
theorem lw_p71 : lw_okq (⟨"MuleTrainModel", "tripReason", "()I"⟩, 25) := ⟨⟨by decide +kernel, by decide +kernel⟩, List.mem_of_getElem? (i := 1373) (by decide +kernel), List.mem_of_getElem? (i := 1605) (by decide +kernel), List.mem_of_getElem? (i := 1606) (by decide +kernel)⟩
theorem lw_p72 : lw_okq (⟨"MuleTrainModel", "isAnyPacked", "()Z"⟩, 25) := ⟨⟨by decide +kernel, by decide +kernel⟩, List.mem_of_getElem? (i := 1373) (by decide +kernel), List.mem_of_getElem? (i := 1609) (by decide +kernel), List.mem_of_getElem? (i := 1610) (by decide +kernel)⟩
theorem lw_p73 : lw_okq (⟨"MuleTrainModel", "isPacked", "(I)Z"⟩, 25) := ⟨⟨by decide +kernel, by decide +kernel⟩, List.mem_of_getElem? (i := 1373) (by decide +kernel), List.mem_of_getElem? (i := 1613) (by decide +kernel), List.mem_of_getElem? (i := 1614) (by decide +kernel)⟩
theorem lw_p74 : lw_okq (⟨"MuleTrainModel", "firstTilted", "()I"⟩, 25) := ⟨⟨by decide +kernel, by decide +kernel⟩, List.mem_of_getElem? (i := 1373) (by decide +kernel), List.mem_of_getElem? (i := 1617) (by decide +kernel), List.mem_of_getElem? (i := 1618) (by decide +kernel)⟩
theorem lw_p75 : lw_okq (⟨"MuleTrainModel", "isLevel", "(I)Z"⟩, 25) := ⟨⟨by decide +kernel, by decide +kernel⟩, List.mem_of_getElem? (i := 1373) (by decide +kernel), List.mem_of_getElem? (i := 1621) (by decide +kernel), List.mem_of_getElem? (i := 1622) (by decide +kernel)⟩
theorem lw_p76 : lw_okq (⟨"MuleTrainModel", "tilt", "(I)I"⟩, 25) := ⟨⟨by decide +kernel, by decide +kernel⟩, List.mem_of_getElem? (i := 1373) (by decide +kernel), List.mem_of_getElem? (i := 1625) (by decide +kernel), List.mem_of_getElem? (i := 1626) (by decide +kernel)⟩
theorem lw_p77 : lw_okq (⟨"MuleTrainModel", "trips", "()V"⟩, 25) := ⟨⟨by decide +kernel, by decide +kernel⟩, List.mem_of_getElem? (i := 1373) (by decide +kernel), List.mem_of_getElem? (i := 1632) (by decide +kernel), List.mem_of_getElem? (i := 1633) (by decide +kernel)⟩
theorem lw_p78 : lw_okq (⟨"MuleTrainModel", "sacksOn", "(I)I"⟩, 25) := ⟨⟨by decide +kernel, by decide +kernel⟩, List.mem_of_getElem? (i := 1373) (by decide +kernel), List.mem_of_getElem? (i := 1636) (by decide +kernel), List.mem_of_getElem? (i := 1637) (by decide +kernel)⟩
theorem lw_p79 : lw_okq (⟨"MuleTrainModel", "passes", "(II)V"⟩, 25) := ⟨⟨by decide +kernel, by decide +kernel⟩, List.mem_of_getElem? (i := 1373) (by decide +kernel), List.mem_of_getElem? (i := 1640) (by decide +kernel), List.mem_of_getElem? (i := 1641) (by decide +kernel)⟩
def lw_privs_5 : List (MethodName × Nat) := [(⟨"MuleTrainModel", "packReason", "(II)I"⟩, 25), (⟨"MuleTrainModel", "loadOf", "(I)I"⟩, 25), (⟨"MuleTrainModel", "weightOn", "(II)I"⟩, 25), (⟨"MuleTrainModel", "isOn", "(II)Z"⟩, 25), (⟨"MuleTrainModel", "weightOf", "(I)I"⟩, 25), (⟨"MuleTrainModel", "bears", "(I)I"⟩, 25), (⟨"MuleTrainModel", "readsTrip", "()V"⟩, 25), (⟨"MuleTrainModel", "tripReason", "()I"⟩, 25), (⟨"MuleTrainModel", "isAnyPacked", "()Z"⟩, 25), (⟨"MuleTrainModel", "isPacked", "(I)Z"⟩, 25), (⟨"MuleTrainModel", "firstTilted", "()I"⟩, 25), (⟨"MuleTrainModel", "isLevel", "(I)Z"⟩, 25), (⟨"MuleTrainModel", "tilt", "(I)I"⟩, 25), (⟨"MuleTrainModel", "trips", "()V"⟩, 25), (⟨"MuleTrainModel", "sacksOn", "(I)I"⟩, 25), (⟨"MuleTrainModel", "passes", "(II)V"⟩, 25)]
theorem lw_r5 : ∀ q ∈ lw_privs_5, lw_okq q := List.forall_mem_cons.mpr ⟨lw_p64, List.forall_mem_cons.mpr ⟨lw_p65, List.forall_mem_cons.mpr ⟨lw_p66, List.forall_mem_cons.mpr ⟨lw_p67, List.forall_mem_cons.mpr ⟨lw_p68, List.forall_mem_cons.mpr ⟨lw_p69, List.forall_mem_cons.mpr ⟨lw_p70, List.forall_mem_cons.mpr ⟨lw_p71, List.forall_mem_cons.mpr ⟨lw_p72, List.forall_mem_cons.mpr ⟨lw_p73, List.forall_mem_cons.mpr ⟨lw_p74, List.forall_mem_cons.mpr ⟨lw_p75, List.forall_mem_cons.mpr ⟨lw_p76, List.forall_mem_cons.mpr ⟨lw_p77, List.forall_mem_cons.mpr ⟨lw_p78, List.forall_mem_cons.mpr ⟨lw_p79, fun _ h => absurd h List.not_mem_nil⟩⟩⟩⟩⟩⟩⟩⟩⟩⟩⟩⟩⟩⟩⟩⟩
theorem lw_p80 : lw_okq (⟨"MuleTrainModel", "roads", "(II)V"⟩, 25) := ⟨⟨by decide +kernel, by decide +kernel⟩, List.mem_of_getElem? (i := 1373) (by decide +kernel), List.mem_of_getElem? (i := 1644) (by decide +kernel), List.mem_of_getElem? (i := 1645) (by decide +kernel)⟩
theorem lw_p81 : lw_okq (⟨"MuleTrainModel", "tires", "(II)V"⟩, 25) := ⟨⟨by decide +kernel, by decide +kernel⟩, List.mem_of_getElem? (i := 1373) (by decide +kernel), List.mem_of_getElem? (i := 1648) (by decide +kernel), List.mem_of_getElem? (i := 1649) (by decide +kernel)⟩
theorem lw_p82 : lw_okq (⟨"MuleTrainModel", "sheds", "(II)I"⟩, 25) := ⟨⟨by decide +kernel, by decide +kernel⟩, List.mem_of_getElem? (i := 1373) (by decide +kernel), List.mem_of_getElem? (i := 1652) (by decide +kernel), List.mem_of_getElem? (i := 1653) (by decide +kernel)⟩
theorem lw_p83 : lw_okq (⟨"MuleTrainModel", "poorestOn", "(I)I"⟩, 25) := ⟨⟨by decide +kernel, by decide +kernel⟩, List.mem_of_getElem? (i := 1373) (by decide +kernel), List.mem_of_getElem? (i := 1656) (by decide +kernel), List.mem_of_getElem? (i := 1657) (by decide +kernel)⟩
theorem lw_p84 : lw_okq (⟨"MuleTrainModel", "worthOf", "(I)I"⟩, 25) := ⟨⟨by decide +kernel, by decide +kernel⟩, List.mem_of_getElem? (i := 1373) (by decide +kernel), List.mem_of_getElem? (i := 1660) (by decide +kernel), List.mem_of_getElem? (i := 1661) (by decide +kernel)⟩
theorem lw_p85 : lw_okq (⟨"MuleTrainModel", "counts", "(II)V"⟩, 25) := ⟨⟨by decide +kernel, by decide +kernel⟩, List.mem_of_getElem? (i := 1373) (by decide +kernel), List.mem_of_getElem? (i := 1664) (by decide +kernel), List.mem_of_getElem? (i := 1665) (by decide +kernel)⟩
theorem lw_p86 : lw_okq (⟨"MuleTrainModel", "leaves", "(II)V"⟩, 25) := ⟨⟨by decide +kernel, by decide +kernel⟩, List.mem_of_getElem? (i := 1373) (by decide +kernel), List.mem_of_getElem? (i := 1668) (by decide +kernel), List.mem_of_getElem? (i := 1669) (by decide +kernel)⟩
theorem lw_p87 : lw_okq (⟨"MuleTrainModel", "fords", "(II)V"⟩, 25) := ⟨⟨by decide +kernel, by decide +kernel⟩, List.mem_of_getElem? (i := 1373) (by decide +kernel), List.mem_of_getElem? (i := 1672) (by decide +kernel), List.mem_of_getElem? (i := 1673) (by decide +kernel)⟩
theorem lw_p88 : lw_okq (⟨"MuleTrainModel", "fordLimit", "(II)I"⟩, 25) := ⟨⟨by decide +kernel, by decide +kernel⟩, List.mem_of_getElem? (i := 1373) (by decide +kernel), List.mem_of_getElem? (i := 1676) (by decide +kernel), List.mem_of_getElem? (i := 1677) (by decide +kernel)⟩
theorem lw_p89 : lw_okq (⟨"MuleTrainModel", "breaks", "(I)V"⟩, 25) := ⟨⟨by decide +kernel, by decide +kernel⟩, List.mem_of_getElem? (i := 1373) (by decide +kernel), List.mem_of_getElem? (i := 1680) (by decide +kernel), List.mem_of_getElem? (i := 1681) (by decide +kernel)⟩
theorem lw_p90 : lw_okq (⟨"MuleTrainModel", "wets", "(I)V"⟩, 25) := ⟨⟨by decide +kernel, by decide +kernel⟩, List.mem_of_getElem? (i := 1373) (by decide +kernel), List.mem_of_getElem? (i := 1684) (by decide +kernel), List.mem_of_getElem? (i := 1685) (by decide +kernel)⟩
theorem lw_p91 : lw_okq (⟨"MuleTrainModel", "delivers", "()V"⟩, 25) := ⟨⟨by decide +kernel, by decide +kernel⟩, List.mem_of_getElem? (i := 1373) (by decide +kernel), List.mem_of_getElem? (i := 1691) (by decide +kernel), List.mem_of_getElem? (i := 1692) (by decide +kernel)⟩
theorem lw_p92 : lw_okq (⟨"MuleTrainModel", "readsRest", "()V"⟩, 25) := ⟨⟨by decide +kernel, by decide +kernel⟩, List.mem_of_getElem? (i := 1373) (by decide +kernel), List.mem_of_getElem? (i := 1695) (by decide +kernel), List.mem_of_getElem? (i := 1696) (by decide +kernel)⟩
theorem lw_p93 : lw_okq (⟨"MuleTrainModel", "rests", "(I)V"⟩, 25) := ⟨⟨by decide +kernel, by decide +kernel⟩, List.mem_of_getElem? (i := 1373) (by decide +kernel), List.mem_of_getElem? (i := 1699) (by decide +kernel), List.mem_of_getElem? (i := 1700) (by decide +kernel)⟩
theorem lw_p94 : lw_okq (⟨"MuleTrainModel", "putsBack", "()V"⟩, 25) := ⟨⟨by decide +kernel, by decide +kernel⟩, List.mem_of_getElem? (i := 1373) (by decide +kernel), List.mem_of_getElem? (i := 1703) (by decide +kernel), List.mem_of_getElem? (i := 1704) (by decide +kernel)⟩
theorem lw_p95 : lw_okq (⟨"MuleTrainModel", "atPlace", "(I)I"⟩, 25) := ⟨⟨by decide +kernel, by decide +kernel⟩, List.mem_of_getElem? (i := 1373) (by decide +kernel), List.mem_of_getElem? (i := 1719) (by decide +kernel), List.mem_of_getElem? (i := 1720) (by decide +kernel)⟩
def lw_privs_6 : List (MethodName × Nat) := [(⟨"MuleTrainModel", "roads", "(II)V"⟩, 25), (⟨"MuleTrainModel", "tires", "(II)V"⟩, 25), (⟨"MuleTrainModel", "sheds", "(II)I"⟩, 25), (⟨"MuleTrainModel", "poorestOn", "(I)I"⟩, 25), (⟨"MuleTrainModel", "worthOf", "(I)I"⟩, 25), (⟨"MuleTrainModel", "counts", "(II)V"⟩, 25), (⟨"MuleTrainModel", "leaves", "(II)V"⟩, 25), (⟨"MuleTrainModel", "fords", "(II)V"⟩, 25), (⟨"MuleTrainModel", "fordLimit", "(II)I"⟩, 25), (⟨"MuleTrainModel", "breaks", "(I)V"⟩, 25), (⟨"MuleTrainModel", "wets", "(I)V"⟩, 25), (⟨"MuleTrainModel", "delivers", "()V"⟩, 25), (⟨"MuleTrainModel", "readsRest", "()V"⟩, 25), (⟨"MuleTrainModel", "rests", "(I)V"⟩, 25), (⟨"MuleTrainModel", "putsBack", "()V"⟩, 25), (⟨"MuleTrainModel", "atPlace", "(I)I"⟩, 25)]
theorem lw_r6 : ∀ q ∈ lw_privs_6, lw_okq q := List.forall_mem_cons.mpr ⟨lw_p80, List.forall_mem_cons.mpr ⟨lw_p81, List.forall_mem_cons.mpr ⟨lw_p82, List.forall_mem_cons.mpr ⟨lw_p83, List.forall_mem_cons.mpr ⟨lw_p84, List.forall_mem_cons.mpr ⟨lw_p85, List.forall_mem_cons.mpr ⟨lw_p86, List.forall_mem_cons.mpr ⟨lw_p87, List.forall_mem_cons.mpr ⟨lw_p88, List.forall_mem_cons.mpr ⟨lw_p89, List.forall_mem_cons.mpr ⟨lw_p90, List.forall_mem_cons.mpr ⟨lw_p91, List.forall_mem_cons.mpr ⟨lw_p92, List.forall_mem_cons.mpr ⟨lw_p93, List.forall_mem_cons.mpr ⟨lw_p94, List.forall_mem_cons.mpr ⟨lw_p95, fun _ h => absurd h List.not_mem_nil⟩⟩⟩⟩⟩⟩⟩⟩⟩⟩⟩⟩⟩⟩⟩⟩
theorem lw_p96 : lw_okq (⟨"MuleTrainModel", "milesAll", "()I"⟩, 25) := ⟨⟨by decide +kernel, by decide +kernel⟩, List.mem_of_getElem? (i := 1373) (by decide +kernel), List.mem_of_getElem? (i := 1723) (by decide +kernel), List.mem_of_getElem? (i := 1724) (by decide +kernel)⟩
theorem lw_p97 : lw_okq (⟨"MuleTrainModel", "isMule", "(I)Z"⟩, 25) := ⟨⟨by decide +kernel, by decide +kernel⟩, List.mem_of_getElem? (i := 1373) (by decide +kernel), List.mem_of_getElem? (i := 1739) (by decide +kernel), List.mem_of_getElem? (i := 1740) (by decide +kernel)⟩
theorem lw_p98 : lw_okq (⟨"MuleTrainModel", "worthOn", "(I)I"⟩, 25) := ⟨⟨by decide +kernel, by decide +kernel⟩, List.mem_of_getElem? (i := 1373) (by decide +kernel), List.mem_of_getElem? (i := 1743) (by decide +kernel), List.mem_of_getElem? (i := 1744) (by decide +kernel)⟩
theorem lw_p99 : lw_okq (⟨"MuleTrainModel", "lettersOf", "(I)I"⟩, 25) := ⟨⟨by decide +kernel, by decide +kernel⟩, List.mem_of_getElem? (i := 1373) (by decide +kernel), List.mem_of_getElem? (i := 1747) (by decide +kernel), List.mem_of_getElem? (i := 1748) (by decide +kernel)⟩
theorem lw_p100 : lw_okq (⟨"MuleTrainModel", "isSack", "(I)Z"⟩, 25) := ⟨⟨by decide +kernel, by decide +kernel⟩, List.mem_of_getElem? (i := 1373) (by decide +kernel), List.mem_of_getElem? (i := 1759) (by decide +kernel), List.mem_of_getElem? (i := 1760) (by decide +kernel)⟩
theorem lw_p101 : lw_okq (⟨"MuleTrainModel", "isStage", "(I)Z"⟩, 25) := ⟨⟨by decide +kernel, by decide +kernel⟩, List.mem_of_getElem? (i := 1373) (by decide +kernel), List.mem_of_getElem? (i := 1767) (by decide +kernel), List.mem_of_getElem? (i := 1768) (by decide +kernel)⟩
theorem lw_p102 : lw_okq (⟨"MuleTrainModel", "bestFor", "(I)I"⟩, 25) := ⟨⟨by decide +kernel, by decide +kernel⟩, List.mem_of_getElem? (i := 1373) (by decide +kernel), List.mem_of_getElem? (i := 1803) (by decide +kernel), List.mem_of_getElem? (i := 1804) (by decide +kernel)⟩
theorem lw_p103 : lw_okq (⟨"MuleTrainModel", "lighterOf", "(I)I"⟩, 25) := ⟨⟨by decide +kernel, by decide +kernel⟩, List.mem_of_getElem? (i := 1373) (by decide +kernel), List.mem_of_getElem? (i := 1811) (by decide +kernel), List.mem_of_getElem? (i := 1812) (by decide +kernel)⟩
theorem lw_p104 : lw_okq (⟨"MuleTrainModel", "remembers", "()V"⟩, 25) := ⟨⟨by decide +kernel, by decide +kernel⟩, List.mem_of_getElem? (i := 1373) (by decide +kernel), List.mem_of_getElem? (i := 1835) (by decide +kernel), List.mem_of_getElem? (i := 1836) (by decide +kernel)⟩
theorem lw_p105 : lw_okq (⟨"MuleTrainModel", "writes", "(I)V"⟩, 25) := ⟨⟨by decide +kernel, by decide +kernel⟩, List.mem_of_getElem? (i := 1373) (by decide +kernel), List.mem_of_getElem? (i := 1891) (by decide +kernel), List.mem_of_getElem? (i := 1892) (by decide +kernel)⟩
theorem lw_p106 : lw_okq (⟨"MuleTrainModel", "writesSide", "(II)V"⟩, 25) := ⟨⟨by decide +kernel, by decide +kernel⟩, List.mem_of_getElem? (i := 1373) (by decide +kernel), List.mem_of_getElem? (i := 1895) (by decide +kernel), List.mem_of_getElem? (i := 1896) (by decide +kernel)⟩
theorem lw_p107 : lw_okq (⟨"MuleTrainModel", "writesNumber", "(I)V"⟩, 25) := ⟨⟨by decide +kernel, by decide +kernel⟩, List.mem_of_getElem? (i := 1373) (by decide +kernel), List.mem_of_getElem? (i := 1899) (by decide +kernel), List.mem_of_getElem? (i := 1900) (by decide +kernel)⟩
def lw_privs_7 : List (MethodName × Nat) := [(⟨"MuleTrainModel", "milesAll", "()I"⟩, 25), (⟨"MuleTrainModel", "isMule", "(I)Z"⟩, 25), (⟨"MuleTrainModel", "worthOn", "(I)I"⟩, 25), (⟨"MuleTrainModel", "lettersOf", "(I)I"⟩, 25), (⟨"MuleTrainModel", "isSack", "(I)Z"⟩, 25), (⟨"MuleTrainModel", "isStage", "(I)Z"⟩, 25), (⟨"MuleTrainModel", "bestFor", "(I)I"⟩, 25), (⟨"MuleTrainModel", "lighterOf", "(I)I"⟩, 25), (⟨"MuleTrainModel", "remembers", "()V"⟩, 25), (⟨"MuleTrainModel", "writes", "(I)V"⟩, 25), (⟨"MuleTrainModel", "writesSide", "(II)V"⟩, 25), (⟨"MuleTrainModel", "writesNumber", "(I)V"⟩, 25)]
theorem lw_r7 : ∀ q ∈ lw_privs_7, lw_okq q := List.forall_mem_cons.mpr ⟨lw_p96, List.forall_mem_cons.mpr ⟨lw_p97, List.forall_mem_cons.mpr ⟨lw_p98, List.forall_mem_cons.mpr ⟨lw_p99, List.forall_mem_cons.mpr ⟨lw_p100, List.forall_mem_cons.mpr ⟨lw_p101, List.forall_mem_cons.mpr ⟨lw_p102, List.forall_mem_cons.mpr ⟨lw_p103, List.forall_mem_cons.mpr ⟨lw_p104, List.forall_mem_cons.mpr ⟨lw_p105, List.forall_mem_cons.mpr ⟨lw_p106, List.forall_mem_cons.mpr ⟨lw_p107, fun _ h => absurd h List.not_mem_nil⟩⟩⟩⟩⟩⟩⟩⟩⟩⟩⟩⟩
def lw_privs : List (MethodName × Nat) := lw_privs_1 ++ (lw_privs_2 ++ (lw_privs_3 ++ (lw_privs_4 ++ (lw_privs_5 ++ (lw_privs_6 ++ (lw_privs_7))))))
def lw_tbl : List Cond := k2_sels lw_privs ++ tables_1
theorem lw_privs_ok : ∀ q ∈ lw_privs, lw_okq q := by
  show ∀ q ∈ lw_privs_1 ++ (lw_privs_2 ++ (lw_privs_3 ++ (lw_privs_4 ++ (lw_privs_5 ++ (lw_privs_6 ++ (lw_privs_7)))))), lw_okq q
  exact List.forall_mem_append.mpr ⟨lw_r1, List.forall_mem_append.mpr ⟨lw_r2, List.forall_mem_append.mpr ⟨lw_r3, List.forall_mem_append.mpr ⟨lw_r4, List.forall_mem_append.mpr ⟨lw_r5, List.forall_mem_append.mpr ⟨lw_r6, lw_r7⟩⟩⟩⟩⟩⟩
/-- the streams that the claim lets the run draw from -/
abbrev lw_cs : List Choice := [Jvm.Choice.named "NaN.bits"]
theorem lw_bits : nanBits ∈ lw_cs := by first | decide | exact List.mem_cons_self | simp [lw_cs, nanBits]
-- ===== end of PART A; then your names; then what follows =====
end
section
/-! ===== BEGIN words of one list among another's, by their places ===== -/
theorem goodIn_r {big : List Cond} (ws : List Cond) (ps : List Nat) (hp : ws = ps.filterMap (fun i => big[i]?)) (h : ws.all goodWord = true) : GoodIn big ws := by
  intro w hw
  have h1 := List.all_eq_true.mp h w hw
  rw [hp] at hw
  obtain ⟨i, -, hi⟩ := List.mem_filterMap.mp hw
  have hm : w ∈ big := by first | exact List.mem_of_getElem? hi | exact List.getElem?_mem hi
  exact ⟨hm, good_of_word h1⟩
theorem goodIn_app {big a b : List Cond} (ha : GoodIn big a) (hb : GoodIn big b) : GoodIn big (a ++ b) := fun w h => (List.mem_append.mp h).elim (ha w) (hb w)
theorem goodIn_ca {big a b : List Cond} {c : Cond} (ha : GoodIn big (c :: a)) (hb : GoodIn big b) : GoodIn big (c :: (a ++ b)) := fun w h => (List.mem_cons.mp h).elim (fun e => ha w (List.mem_cons.mpr (Or.inl e))) (fun h => (List.mem_append.mp h).elim (fun h => ha w (List.mem_cons.mpr (Or.inr h))) (hb w))
theorem goodIn_sub {big ws : List Cond} (hm : ∀ w ∈ ws, w ∈ big) (h : ws.all goodWord = true) : GoodIn big ws := fun w hw => ⟨hm w hw, good_of_word (List.all_eq_true.mp h w hw)⟩
/-! ===== END ===== -/
/-! ===== BEGIN exceptions that leave a method, and their catching by the caller (launches without stack traces) ===== -/
section VXA
/-! The laws vx_back, vx_callV, vx_callS, vx_callSW, vx_throw0, vx_throwS follow proofs of the library, with one case more: JvmDerived/Free/Laws.lean (Back.of_free), Shelf42/LK1.lean (callV, callS), Shelf/KitTraced.lean (throwNew0V, throwNewS). -/
/-- where a method has thrown q: the class by its name, the cell, what was written, the world -/
def vx_T (XC : String → State → State → Prop) (st : State) (q : Addr) (t : State) (mc ms : Nat) (free : Addr → Prop) : Prop :=
  ∃ (E : String) (ce : Cell) (L : List Loc), XC E st t ∧ t.heap[q]? = some ce ∧ ce.vm = .none ∧ st.vm.findClass E = some ce.cls ∧ st.WarmedH t.vm ∧ st.sameButNew ({ t with vm := st.vm } : State) L mc ms ∧ ∀ z ∈ L, free z.base
def vx_Q (Qc : Array Value → State → Outcome → State → Prop) (XC : String → State → State → Prop) (mc ms : Nat) (free : Addr → Prop) : Array Value → State → Outcome → State → Prop := fun a st o t =>
  (Qc a st o t ∧ ∃ L, FrameEnd st o t L mc ms ∧ ∀ q ∈ L, free q.base) ∨ ∃ q, o = .threw q ∧ vx_T XC st q t mc ms free
/-- a callee that returns or throws -/
def vx_Met (l : Launch) (y : MethodName) (ws : List Cond) (rm : Room) (Pc : Array Value → State → Prop) (Qc : Array Value → State → Outcome → State → Prop) (XC : String → State → State → Prop) (mc ms : Nat) (free : Addr → Prop) : Prop :=
  MetFree l y (headSpec ws rm) Pc (fun _ _ _ _ _ => True) (vx_Q Qc XC mc ms free)
def vx_Post (XC : String → State → State → Prop) (mc ms : Nat) (free : Addr → Prop) : Pt → Array Value → Addr → Pt → Prop := fun A a q B =>
  ∃ (g : JFrame) (mk : MethodId) (t : State) (L : List Loc) (E : String) (ce : Cell), B.U.heap = t.heap ∧ B.U.vm = t.vm ∧ XC E (A.U.calling g mk a) t ∧ t.heap[q]? = some ce ∧ ce.vm = .none ∧ A.U.vm.findClass E = some ce.cls ∧ B.locs = A.locs ++ L ∧ (∀ z ∈ L, free z.base) ∧ B.cells = A.cells + mc ∧ B.slots = A.slots + ms
def vx_Back (l : Launch) (R : Room) (p : Program) (e : Env) (below : List Frame) (s : State) (sargs : Array Value) (y : MethodName) (len W9 : Nat)
    (Pre : Pt → Array Value → Prop) (Post : Pt → Array Value → Option Value → Pt → Prop) (PostX : Pt → Array Value → Addr → Pt → Prop) : Prop :=
  ∀ (m : MethodId) (meth : Method) (c : Code) (A : Pt) (g : JFrame) (ig : Instr) (mk : MethodId) (a : Array Value),
    Stand p l e R s m sargs below meth c A.U A.locs A.cells A.slots → g.method = m → g.locals.size = c.maxLocals → decode c.code g.pc = .ok (ig, len) →
    2 * g.monitorRoom + (g.stack.map fun v => v.category).sum ≤ W9 → A.U.methodNamed? y = some mk → Pre A a →
    (∃ (v : Option Value) (B : Pt), Stand p l e R s m sargs below meth c B.U B.locs B.cells B.slots ∧ Post A a v B ∧
      Steps p.tables e below (doInvoke e (A.U.setTop g) [] mk a).1 (B.U.setTop { g with pc := g.pc + len, stack := v.toList ++ g.stack })) ∨
    (∃ (q : Addr) (B : Pt), Stand p l e R s m sargs below meth c B.U B.locs B.cells B.slots ∧ PostX A a q B ∧
      Steps p.tables e below (doInvoke e (A.U.setTop g) [] mk a).1 ((B.U.setTop g).pushFrame (.throwing q)))
section Payer
variable {l : Launch} {R : Room} {p : Program} {e : Env} {below : List Frame} {s : State} {sargs : Array Value} {y : MethodName} {len W9 : Nat}
theorem vx_back {ws : List Cond} {rm : Room} {Pc : Array Value → State → Prop} {Qc : Array Value → State → Outcome → State → Prop} {XC : String → State → State → Prop} {mc ms : Nat} {free : Addr → Prop} {bytes : ByteArray} {maxL : Nat} {ret : Option FieldType}
    (hM : vx_Met l y ws rm Pc Qc XC mc ms free) (hblind : FrameBlind Pc) (hrc : rm.cells = mc) (hrs : rm.slots = ms)
    (hframes : rm.frames + 1 ≤ R.frames) (hlocals : W9 + (maxL + 11) + rm.locals ≤ R.locals)
    (hws : ∀ w ∈ ws, ∀ a' U, s.WarmedH U.vm → w.before a' U = true) (hcode : Cond.code y bytes maxL ret ∈ ws) (hinit : ∀ a' U, s.WarmedH U.vm → (Cond.initialized y.cls).before a' U = true) :
    vx_Back l R p e below s sargs y len W9 (PreOf R mc ms Pc) (PostOf Qc mc ms free) (vx_Post XC mc ms free) := by
  intro m meth c A g ig mk a X hg hsize hdg hW hn hp
  have h1 : (headSpec ws rm).pre.before a A.U = true := atoms_intro fun w hw => hws w hw _ _ X.warmed
  have h2 : (Cond.code y bytes maxL ret).before a A.U = true := hws _ hcode _ _ X.warmed
  have h3 : (Cond.initialized y.cls).before a A.U = true := hinit _ _ X.warmed
  have h4 : A.cells + (headSpec ws rm).room.cells ≤ R.cells := by rw [show (headSpec ws rm).room.cells = mc from hrc]; exact hp.1
  have h5 : A.slots + (headSpec ws rm).room.slots ≤ R.slots := by rw [show (headSpec ws rm).room.slots = ms from hrs]; exact hp.2.1
  have hPc : Pc a (A.U.calling g mk a) := hblind _ _ _ _ hp.2.2
  obtain ⟨U, Ls, c0, s0⟩ := A
  dsimp only [Pt.U, Pt.locs, Pt.cells, Pt.slots] at h1 h2 h3 h4 h5 X hn hPc ⊢
  obtain ⟨methY, cY, hmY, hcY, -, hlY, -, -, -, -⟩ := Cond.code_spec hn h2
  obtain ⟨kY, hkY, -⟩ := className_of_methodNamed hn
  have hinitY : kY.init = .initialized := Cond.initialized_spec (findClass_of_methodNamed hn) hkY h3
  have h : At U g.method c below := by rw [hg]; exact X.here
  have hlocals9 : W9 + (maxL + 11) + (headSpec ws rm).room.locals ≤ R.locals := hlocals
  have happ : (headSpec ws rm).appliesLoose y e.platform (U.calling g mk a) = true :=
    Spec.appliesLoose_calling (g := g) h hdg hn hkY hinitY
      (X.room_calling (g := g) (R' := (headSpec ws rm).room) hsize hmY hcY hframes (by rw [hlY]; omega) h4 h5) h1
  obtain ⟨mid, hmid⟩ := h.above
  have hfr : (U.setTop g).frames = (.java g :: mid) ++ below := by rw [State.frames_setTop' g h.top, hmid]; rfl
  obtain ⟨o, s₂, hsteps, -, hend, hq⟩ := Steps.callFree hM p X.admits X.cas X.clock (acts := []) hfr happ hPc trivial
  have hq' : vx_Q Qc XC mc ms free a (U.calling g mk a) o s₂ := hq
  rw [State.frames_setTop' g h.top] at hend
  obtain ⟨g₀, hg0⟩ := Option.isSome_iff_exists.mp h.top
  obtain ⟨r, hr⟩ := State.topJava?_eq_some.mp hg0
  have hr' : (({ U with heap := s₂.heap, slotsUsed := s₂.slotsUsed } : State).setVm s₂.vm).frames = .java g₀ :: r := hr
  rcases hq' with ⟨hqc, L, hfe, hL⟩ | ⟨q, rfl, E, ce, L, hx, hce, hcv, hcl, hW₂, hsm, hL⟩
  · obtain ⟨⟨v, rfl⟩, hW₂, e2, q2, q3, q4, q5, q6⟩ := id hfe
    have e3 : s₂ = ({ (U.calling g mk a).setFrames s₂.frames with heap := s₂.heap, slotsUsed := s₂.slotsUsed } : State).setVm s₂.vm := by
      have : s₂ = ({ s₂ with vm := (U.calling g mk a).vm } : State).setVm s₂.vm := rfl
      rw [e2] at this
      exact this
    obtain ⟨c₂, i₂, len₂, hc₂, hd₂, hf₂⟩ := hend
    have hW' : U.WarmedH s₂.vm := hW₂
    have hcc : c₂ = c := by
      have h1 : s₂.code? g.method = U.code? g.method := by
        rw [State.code?_eq, State.code?_eq, hW'.alike.method?]
      exact Option.some.inj (hc₂.symm.trans (h1.trans h.code))
    subst hcc
    have hlen : len₂ = len := by rw [hdg] at hd₂; cases hd₂; rfl
    subst hlen
    have hs₂ : s₂ = (({ U with heap := s₂.heap, slotsUsed := s₂.slotsUsed } : State).setVm s₂.vm).setTop { g with pc := g.pc + len₂, stack := v.toList ++ g.stack } := by
      refine e3.trans ?_
      rw [hf₂, State.calling_eq h.top, State.setFrames_setFrames, State.setTop_of_frames _ hr', hr]
      rfl
    have hsame : U.sameButNew ({ U with heap := s₂.heap, slotsUsed := s₂.slotsUsed } : State) L mc ms := by
      refine ⟨?_, q2, q3, q4, q5, q6⟩
      obtain ⟨t, ht, -⟩ := State.frames_cons hr
      show ({ U with heap := s₂.heap, slotsUsed := s₂.slotsUsed } : State) = { U.setFrames U.frames with heap := s₂.heap, slotsUsed := s₂.slotsUsed }
      rw [State.setFrames_self ht]
    subst hg
    refine Or.inl ⟨v, ⟨(({ U with heap := s₂.heap, slotsUsed := s₂.slotsUsed } : State).setVm s₂.vm), Ls ++ L, c0 + mc, s0 + ms⟩,
      ⟨X.admits, X.cas, X.clock, X.frames, X.room, X.hears, X.method, X.code, (X.here.setHeapUsed s₂.heap s₂.slotsUsed).setVm hW'.alike, X.tail, State.WarmedH.trans X.warmed hW', X.limits, X.bytes, X.same.trans (hsame.setVm s.vm)⟩,
      ⟨g, mk, s₂, L, rfl, rfl, hqc, rfl, hL, rfl, rfl⟩, ?_⟩
    show Steps p.tables e below _ ((({ U with heap := s₂.heap, slotsUsed := s₂.slotsUsed } : State).setVm s₂.vm).setTop { g with pc := g.pc + len₂, stack := v.toList ++ g.stack })
    rw [← hs₂]
    exact hsteps
  · obtain ⟨e2, q2, q3, q4, q5, q6⟩ := id hsm
    have e3 : s₂ = ({ (U.calling g mk a).setFrames s₂.frames with heap := s₂.heap, slotsUsed := s₂.slotsUsed } : State).setVm s₂.vm := by
      have : s₂ = ({ s₂ with vm := (U.calling g mk a).vm } : State).setVm s₂.vm := rfl
      rw [e2] at this
      exact this
    have hf₂ : s₂.frames = .throwing q :: .java g :: U.frames.tail := hend
    have hW' : U.WarmedH s₂.vm := hW₂
    have hs₂ : s₂ = ((({ U with heap := s₂.heap, slotsUsed := s₂.slotsUsed } : State).setVm s₂.vm).setTop g).pushFrame (.throwing q) := by
      refine e3.trans ?_
      rw [hf₂, State.calling_eq h.top, State.setFrames_setFrames, State.pushFrame, State.frames_setTop _ hr', State.setTop_of_frames _ hr', State.setFrames_setFrames, hr]
      rfl
    have hsame : U.sameButNew ({ U with heap := s₂.heap, slotsUsed := s₂.slotsUsed } : State) L mc ms := by
      refine ⟨?_, q2, q3, q4, q5, q6⟩
      obtain ⟨t, ht, -⟩ := State.frames_cons hr
      show ({ U with heap := s₂.heap, slotsUsed := s₂.slotsUsed } : State) = { U.setFrames U.frames with heap := s₂.heap, slotsUsed := s₂.slotsUsed }
      rw [State.setFrames_self ht]
    subst hg
    refine Or.inr ⟨q, ⟨(({ U with heap := s₂.heap, slotsUsed := s₂.slotsUsed } : State).setVm s₂.vm), Ls ++ L, c0 + mc, s0 + ms⟩,
      ⟨X.admits, X.cas, X.clock, X.frames, X.room, X.hears, X.method, X.code, (X.here.setHeapUsed s₂.heap s₂.slotsUsed).setVm hW'.alike, X.tail, State.WarmedH.trans X.warmed hW', X.limits, X.bytes, X.same.trans (hsame.setVm s.vm)⟩,
      ⟨g, mk, s₂, L, E, ce, rfl, rfl, hx, hce, hcv, hcl, rfl, hL, rfl, rfl⟩, ?_⟩
    show Steps p.tables e below _ (((({ U with heap := s₂.heap, slotsUsed := s₂.slotsUsed } : State).setVm s₂.vm).setTop g).pushFrame (.throwing q))
    rw [← hs₂]
    exact hsteps
end Payer
section Calls
variable {p : Program} {l : Launch} {e : Env} {R : Room} {s : State} {m : MethodId} {args : Array Value} {below : List Frame} {meth : Method} {c : Code} {T : State} {locs : List Loc} {cells slots : Nat}
theorem vx_callV (X : Stand p l e R s m args below meth c T locs cells slots) (hexec : p.tables.exec = Jvm.exec) {own C : String} {index : Nat} {y : MethodName} {bytes : ByteArray} {maxL : Nat} {ret : Option FieldType}
    (hown : s.vm.findClass own = some m.cls) (hlink : (Cond.methodLink own index y).before args s = true) (hinst : (Cond.instanceMethod y).before args s = true) (hsel : (Cond.selects C y y).before args s = true)
    (hcode : (Cond.code y bytes maxL ret).before args s = true) (hy : y.cls ≠ "java/lang/invoke/MethodHandle" ∧ y.cls ≠ "java/lang/invoke/VarHandle")
    {W9 : Nat} {Pre : Pt → Array Value → Prop} {Post : Pt → Array Value → Option Value → Pt → Prop} {PostX : Pt → Array Value → Addr → Pt → Prop} (hK : vx_Back l R p e below s args y 3 W9 Pre Post PostX)
    {b : Addr} {cellB : Cell} (hcell : T.heap[b]? = some cellB) (hobj : cellB.vm.isStatics = false) (hcls : s.vm.findClass C = some cellB.cls)
    {g : JFrame} (hg : g.method = m) (hsize : g.locals.size = c.maxLocals) {argsL rest : List Value} (hlen : ∀ sig, parseMethodDescriptor y.desc = some sig → argsL.length = sig.parameters.length)
    (hstack : g.stack = argsL.reverse ++ .ref b :: rest) (hW : 2 * g.monitorRoom + (rest.map fun v => v.category).sum ≤ W9) (hdg : decode c.code g.pc = .ok (.invokevirtual index, 3))
    (hpre : ∀ vm₁, s.WarmedH vm₁ → Pre ⟨T.setVm vm₁, locs, cells, slots⟩ (Value.ref b :: argsL).toArray) :
    (∃ (v : Option Value) (vm₁ : Vm) (B : Pt), s.WarmedH vm₁ ∧ Stand p l e R s m args below meth c B.U B.locs B.cells B.slots ∧ Post ⟨T.setVm vm₁, locs, cells, slots⟩ (Value.ref b :: argsL).toArray v B ∧
      ∀ target, Steps p.tables e below (B.U.setTop { g with pc := g.pc + 3, stack := v.toList ++ rest }) target → Steps p.tables e below (T.setTop g) target) ∨
    (∃ (q : Addr) (vm₁ : Vm) (B : Pt), s.WarmedH vm₁ ∧ Stand p l e R s m args below meth c B.U B.locs B.cells B.slots ∧ PostX ⟨T.setVm vm₁, locs, cells, slots⟩ (Value.ref b :: argsL).toArray q B ∧
      Steps p.tables e below (T.setTop g) ((B.U.setTop { g with stack := rest }).pushFrame (.throwing q))) := by
  obtain ⟨mk, methM, hnamed, hmethM, hstM, habM⟩ := Cond.instanceMethod_spec hinst
  obtain ⟨methM', cM, hmethM', -, -, -, -, -, -, hsigM⟩ := Cond.code_spec hnamed hcode
  cases hmethM.symm.trans hmethM'
  obtain ⟨c2, r2, m2, q1, q2, q3, q4, kP, hkP, hkPi⟩ := Cond.selects_spec hsel
  cases hcls.symm.trans q1
  cases (State.methodFound?_of_named hnamed hy).symm.trans q2
  cases hnamed.symm.trans q3
  have hselP : selectMethod e.platform s.vm cellB.cls mk = .method mk := by rw [Launch.admits_selectMethod X.admits]; exact q4
  obtain ⟨vm₁, X₁, hstep₁⟩ := X.invokevirtual hexec hown hlink hnamed hmethM hstM hkP hkPi hy (a := b) (cell := cellB) hcell
    (fun z h => by rw [h] at hobj; cases hobj) hselP hmethM habM hkP hkPi (g := g) hg (argsL := argsL) (rest := rest) (hlen _ hsigM) hstack hdg
  rcases hK m meth c ⟨T.setVm vm₁, locs, cells, slots⟩ { g with stack := rest } (.invokevirtual index) mk (Value.ref b :: argsL).toArray X₁ hg hsize hdg hW (X₁.named hnamed) (hpre vm₁ X₁.warmed) with ⟨v, B, X', hpost, hsteps⟩ | ⟨q, B, X', hpost, hsteps⟩
  · exact Or.inl ⟨v, vm₁, B, X₁.warmed, X', hpost, fun target h => hstep₁ _ fun acts => by rw [doInvoke_state]; exact hsteps.trans h⟩
  · exact Or.inr ⟨q, vm₁, B, X₁.warmed, X', hpost, hstep₁ _ fun acts => by rw [doInvoke_state]; exact hsteps⟩
theorem vx_callS (X : Stand p l e R s m args below meth c T locs cells slots) (hexec : p.tables.exec = Jvm.exec) {own : String} {index : Nat} {y : MethodName} {bytes : ByteArray} {maxL : Nat} {ret : Option FieldType}
    (hown : s.vm.findClass own = some m.cls) (hlink : (Cond.methodLink own index y).before args s = true) (hstat : (Cond.static y).before args s = true) (hinit : (Cond.initialized y.cls).before args s = true)
    (hcode : (Cond.code y bytes maxL ret).before args s = true) (hy : y.cls ≠ "java/lang/invoke/MethodHandle" ∧ y.cls ≠ "java/lang/invoke/VarHandle")
    {W9 : Nat} {Pre : Pt → Array Value → Prop} {Post : Pt → Array Value → Option Value → Pt → Prop} {PostX : Pt → Array Value → Addr → Pt → Prop} (hK : vx_Back l R p e below s args y 3 W9 Pre Post PostX)
    {g : JFrame} (hg : g.method = m) (hsize : g.locals.size = c.maxLocals) {argsL rest : List Value} (hlen : ∀ sig, parseMethodDescriptor y.desc = some sig → argsL.length = sig.parameters.length)
    (hstack : g.stack = argsL.reverse ++ rest) (hW : 2 * g.monitorRoom + (rest.map fun v => v.category).sum ≤ W9) (hdg : decode c.code g.pc = .ok (.invokestatic index, 3))
    (hpre : ∀ vm₁, s.WarmedH vm₁ → Pre ⟨T.setVm vm₁, locs, cells, slots⟩ argsL.toArray) :
    (∃ (v : Option Value) (vm₁ : Vm) (B : Pt), s.WarmedH vm₁ ∧ Stand p l e R s m args below meth c B.U B.locs B.cells B.slots ∧ Post ⟨T.setVm vm₁, locs, cells, slots⟩ argsL.toArray v B ∧
      ∀ target, Steps p.tables e below (B.U.setTop { g with pc := g.pc + 3, stack := v.toList ++ rest }) target → Steps p.tables e below (T.setTop g) target) ∨
    (∃ (q : Addr) (vm₁ : Vm) (B : Pt), s.WarmedH vm₁ ∧ Stand p l e R s m args below meth c B.U B.locs B.cells B.slots ∧ PostX ⟨T.setVm vm₁, locs, cells, slots⟩ argsL.toArray q B ∧
      Steps p.tables e below (T.setTop g) ((B.U.setTop { g with stack := rest }).pushFrame (.throwing q))) := by
  obtain ⟨mk, hnamed⟩ := Cond.code_named hcode
  obtain ⟨methM, cM, hmethM, -, -, -, -, -, -, hsigM⟩ := Cond.code_spec hnamed hcode
  have hstatic : methM.isStatic = true := Cond.static_spec hnamed hmethM hstat
  obtain ⟨kP, hkP, -⟩ := className_of_methodNamed hnamed
  have hinitP : kP.init = .initialized := Cond.initialized_spec (findClass_of_methodNamed hnamed) hkP hinit
  obtain ⟨vm₁, X₁, hstep₁⟩ := X.invokestatic hexec hown hlink hnamed hmethM hstatic hkP hinitP hy (g := g) hg (argsL := argsL) (rest := rest) (hlen _ hsigM) hstack hdg
  rcases hK m meth c ⟨T.setVm vm₁, locs, cells, slots⟩ { g with stack := rest } (.invokestatic index) mk argsL.toArray X₁ hg hsize hdg hW (X₁.named hnamed) (hpre vm₁ X₁.warmed) with ⟨v, B, X', hpost, hsteps⟩ | ⟨q, B, X', hpost, hsteps⟩
  · exact Or.inl ⟨v, vm₁, B, X₁.warmed, X', hpost, fun target h => hstep₁ _ fun acts => by rw [doInvoke_state]; exact hsteps.trans h⟩
  · exact Or.inr ⟨q, vm₁, B, X₁.warmed, X', hpost, hstep₁ _ fun acts => by rw [doInvoke_state]; exact hsteps⟩
end Calls
theorem vx_cls {s : State} {T : State} {vm₁ : Vm} {E : String} {k : ClassId} (hW : s.WarmedH vm₁) (h : (T.setVm vm₁).vm.findClass E = some k) : s.vm.findClass E = some k := by
  have h1 : vm₁.findClass E = some k := h
  rw [hW.alike.findClass] at h1
  exact h1
/-- the method's frame g, with q thrown over it -/
def vx_W (p : Program) (l : Launch) (e : Env) (R : Room) (s : State) (m : MethodId) (args : Array Value) (below : List Frame) (meth : Method) (c : Code) (H : Heap) (locs : List Loc) (cells slots : Nat) (Q : State → Prop) (g : JFrame) (q : Addr) : Prop :=
  ∀ T : State, T.heap = H → Stand p l e R s m args below meth c T locs cells slots → ∃ t, Steps p.tables e below ((T.setTop g).pushFrame (.throwing q)) t ∧ Q t
def vx_Run (p : Program) (l : Launch) (e : Env) (R : Room) (s : State) (m : MethodId) (args : Array Value) (below : List Frame) (meth : Method) (c : Code) (H : Heap) (locs : List Loc) (cells slots mc ms : Nat) (g : JFrame) (rest : List Value) (Qa : State → Outcome → State → Prop) (XC : String → State → State → Prop) (free : Addr → Prop) : Prop :=
  ∀ T : State, T.heap = H → Stand p l e R s m args below meth c T locs cells slots →
    (∃ (v : Option Value) (st₀ t T' : State) (L : List Loc), st₀.heap = H ∧ Stand p l e R s m args below meth c T' (locs ++ L) (cells + mc) (slots + ms) ∧ (∀ q ∈ L, free q.base) ∧ T'.heap = t.heap ∧ T'.vm = t.vm ∧ Qa st₀ (.returned v) t ∧
      Goes p e below T g T' { g with pc := g.pc + 3, stack := v.toList ++ rest }) ∨
    (∃ (q : Addr) (st₀ t T' : State) (L : List Loc) (E : String) (ce : Cell), st₀.heap = H ∧ Stand p l e R s m args below meth c T' (locs ++ L) (cells + mc) (slots + ms) ∧ (∀ z ∈ L, free z.base) ∧ T'.heap = t.heap ∧ T'.vm = t.vm ∧ XC E st₀ t ∧ t.heap[q]? = some ce ∧ ce.vm = .none ∧ s.vm.findClass E = some ce.cls ∧
      Steps p.tables e below (T.setTop g) ((T'.setTop { g with stack := rest }).pushFrame (.throwing q)))
def vx_X {S : Type} (px : S → Prop) (B : String → S → State → Prop) (A : Nat → Prop) : String → State → State → Prop := fun E st t => ∃ u : S, px u ∧ B E u t ∧ va_F A st t
section Runs
variable {p : Program} {l : Launch} {e : Env} {R : Room} {s : State} {m : MethodId} {args : Array Value} {below : List Frame} {meth : Method} {c : Code} {H : Heap} {locs : List Loc} {cells slots : Nat}
variable {y : MethodName} {bytes cc : ByteArray} {maxL nL mc ms n index : Nat} {ret : Option FieldType} {ws : List Cond} {rm : Room} {Pc : Array Value → State → Prop} {Qc : Array Value → State → Outcome → State → Prop} {XC : String → State → State → Prop} {free : Addr → Prop} {Ts : List Cond} {own C : String} {b : Addr} {As rest : List Value} {g : JFrame}
theorem vx_callBack (cb : CallB R s args own index y bytes maxL ret ws rm mc ms n) (hM : vx_Met l y ws rm Pc Qc XC mc ms free) (hbl : FrameBlind Pc) : vx_Back l R p e below s args y 3 8 (PreOf R mc ms Pc) (PostOf Qc mc ms free) (vx_Post XC mc ms free) := by
  obtain ⟨hrc, hrs, hfr, hlo, hws, hcw, -, hini, -⟩ := cb
  exact vx_back (bytes := bytes) (maxL := maxL) (ret := ret) hM hbl hrc hrs hfr hlo hws hcw (fun a' U hW => word_at hW (Or.inl (by first | rfl | simp [Cond.onTables, Cond.keeps, Cond.steady])) hini)
theorem vx_runV (S : CallFix p m c cc nL s args Ts own) (hM : vx_Met l y ws rm Pc Qc XC mc ms free) (cw : CallW R s args own C index y bytes maxL ret ws rm mc ms n) (hp : PreV s H C b Pc As)
    (hg : g.method = m) (hn : As.length = n) (hsize : g.locals.size = nL) (hstack : g.stack = As.reverse ++ .ref b :: rest) (hW : 2 * g.monitorRoom + (rest.map fun v => v.category).sum ≤ 8) (hdg : decode cc g.pc = .ok (.invokevirtual index, 3)) (hf : cells + mc ≤ R.cells ∧ slots + ms ≤ R.slots) :
    vx_Run p l e R s m args below meth c H locs cells slots mc ms g rest (Qc (Value.ref b :: As).toArray) XC free := by
  have hK : vx_Back l R p e below s args y 3 8 (PreOf R mc ms Pc) (PostOf Qc mc ms free) (vx_Post XC mc ms free) := vx_callBack cw.1 hM hp.1
  obtain ⟨⟨-, -, -, -, -, -, hcode, -, hy, hlen, hl⟩, hin, hse⟩ := cw
  obtain ⟨hx, hb, hml, ho, -⟩ := S
  obtain ⟨-, ⟨cellB, hcB, hoB, hclB⟩, hPc⟩ := hp
  intro T hT X
  rcases vx_callV X hx (C := C) (bytes := bytes) (maxL := maxL) (ret := ret) ho hl hin hse hcode hy hK (by rw [hT]; exact hcB) hoB hclB hg (hsize.trans hml.symm) (argsL := As) (rest := rest) (fun sig h => hn.trans (hlen sig h)) hstack hW (by rw [hb]; exact hdg)
    (fun vm₁ hW₁ => ⟨hf.1, hf.2, hPc (T.setVm vm₁) hT hW₁⟩) with ⟨v, vm₁, ⟨U', l2, c2, s2⟩, hW₁, X', ⟨g', mk, t, L, e1, e2, hq, h1, hL, h2, h3⟩, st⟩ | ⟨q, vm₁, ⟨U', l2, c2, s2⟩, hW₁, X', ⟨g', mk, t, L, E, ce, e1, e2, hq, hce, hcv, hcl, h1, hL, h2, h3⟩, st⟩
  · dsimp only [Pt.U, Pt.locs, Pt.cells, Pt.slots] at X' e1 e2 h1 h2 h3 st
    subst h1; subst h2; subst h3
    exact Or.inl ⟨v, (T.setVm vm₁).calling g' mk (Value.ref b :: As).toArray, t, U', L, hT, X', hL, e1, e2, hq, st⟩
  · dsimp only [Pt.U, Pt.locs, Pt.cells, Pt.slots] at X' e1 e2 h1 h2 h3 st hcl
    subst h1; subst h2; subst h3
    exact Or.inr ⟨q, (T.setVm vm₁).calling g' mk (Value.ref b :: As).toArray, t, U', L, E, ce, hT, X', hL, e1, e2, hq, hce, hcv, vx_cls hW₁ hcl, st⟩
theorem vx_runS (S : CallFix p m c cc nL s args Ts own) (hM : vx_Met l y ws rm Pc Qc XC mc ms free) (cw : CallB R s args own index y bytes maxL ret ws rm mc ms n ∧ (Cond.static y).before args s = true) (hp : PreS s H Pc As)
    (hg : g.method = m) (hn : As.length = n) (hsize : g.locals.size = nL) (hstack : g.stack = As.reverse ++ rest) (hW : 2 * g.monitorRoom + (rest.map fun v => v.category).sum ≤ 8) (hdg : decode cc g.pc = .ok (.invokestatic index, 3)) (hf : cells + mc ≤ R.cells ∧ slots + ms ≤ R.slots) :
    vx_Run p l e R s m args below meth c H locs cells slots mc ms g rest (Qc As.toArray) XC free := by
  have hK : vx_Back l R p e below s args y 3 8 (PreOf R mc ms Pc) (PostOf Qc mc ms free) (vx_Post XC mc ms free) := vx_callBack cw.1 hM hp.1
  obtain ⟨⟨-, -, -, -, -, -, hcode, hini, hy, hlen, hl⟩, hstt⟩ := cw
  obtain ⟨hx, hb, hml, ho, -⟩ := S
  intro T hT X
  rcases vx_callS X hx (bytes := bytes) (maxL := maxL) (ret := ret) ho hl hstt hini hcode hy hK hg (hsize.trans hml.symm) (argsL := As) (rest := rest) (fun sig h => hn.trans (hlen sig h)) hstack hW (by rw [hb]; exact hdg)
    (fun vm₁ hW₁ => ⟨hf.1, hf.2, hp.2 (T.setVm vm₁) hT hW₁⟩) with ⟨v, vm₁, ⟨U', l2, c2, s2⟩, hW₁, X', ⟨g', mk, t, L, e1, e2, hq, h1, hL, h2, h3⟩, st⟩ | ⟨q, vm₁, ⟨U', l2, c2, s2⟩, hW₁, X', ⟨g', mk, t, L, E, ce, e1, e2, hq, hce, hcv, hcl, h1, hL, h2, h3⟩, st⟩
  · dsimp only [Pt.U, Pt.locs, Pt.cells, Pt.slots] at X' e1 e2 h1 h2 h3 st
    subst h1; subst h2; subst h3
    exact Or.inl ⟨v, (T.setVm vm₁).calling g' mk As.toArray, t, U', L, hT, X', hL, e1, e2, hq, st⟩
  · dsimp only [Pt.U, Pt.locs, Pt.cells, Pt.slots] at X' e1 e2 h1 h2 h3 st hcl
    subst h1; subst h2; subst h3
    exact Or.inr ⟨q, (T.setVm vm₁).calling g' mk As.toArray, t, U', L, E, ce, hT, X', hL, e1, e2, hq, hce, hcv, vx_cls hW₁ hcl, st⟩
end Runs
section Rows
variable {p : Program} {l : Launch} {e : Env} {R : Room} {s : State} {m : MethodId} {args : Array Value} {below : List Frame} {meth : Method} {c : Code} {H : Heap} {locs : List Loc} {cells slots : Nat} {Q : State → Prop}
variable {mc ms : Nat} {free : Addr → Prop} {A0 A1 : Nat → Prop} {H0 : Heap} {a : Array Value} {pc : Nat} {ls : Array Slot} {st0 rest : List Value}
theorem vx_keep {st₀ t T' : State} {L : List Loc} (h0 : st₀.heap = H) (e1 : T'.heap = t.heap) (hS : va_S A0 H0 H locs) (hA : ∀ q, q < H.size → A1 q → A0 q) (hf : ∀ q, free q → A0 q) (hL : ∀ q ∈ L, free q.base) (hF : va_F A1 st₀ t) :
    H.size ≤ T'.heap.size ∧ (∀ q : Nat, q < H.size → ¬ A1 q → T'.heap[q]? = H[q]?) ∧ va_S A0 H0 T'.heap (locs ++ L) := by
  obtain ⟨hz, hk⟩ := hF
  rw [h0] at hz hk
  exact ⟨by rw [e1]; exact hz, fun q h1 h2 => by rw [e1]; exact hk q h1 h2,
    ⟨Nat.le_trans hS.1 (by rw [e1]; exact hz), fun q h1 h2 => by rw [e1, hk q (Nat.lt_of_lt_of_le h1 hS.1) (fun z => h2 (hA q (Nat.lt_of_lt_of_le h1 hS.1) z))]; exact hS.2.1 q h1 h2, fun q hq => by
      rcases List.mem_append.mp hq with h | h
      · exact hS.2.2 q h
      · exact hf _ (hL q h)⟩⟩
theorem vx_calli {S SX : Type} {post : Int32 → S → Prop} {px : SX → Prop} {B : S → State → Prop} {BX : String → SX → State → Prop} {AX : Nat → Prop} (hr : vx_Run p l e R s m args below meth c H locs cells slots mc ms (F0 m pc ls st0) rest (va_Qi post B A1 a) (vx_X px BX AX) free) (hS : va_S A0 H0 H locs) (hA : ∀ q, q < H.size → A1 q → A0 q) (hf : ∀ q, free q → A0 q) (hAX : ∀ q, q < H.size → AX q → A0 q)
    (kx : ∀ (E : String) (ce : Cell) (q9 : Addr) (u : SX) (t : State) (H1 : Heap) (locs1 : List Loc), t.heap = H1 → s.vm.Alike t.vm → px u → BX E u t → H.size ≤ H1.size → (∀ q : Nat, q < H.size → ¬ AX q → H1[q]? = H[q]?) → va_S A0 H0 H1 locs1 → H1[q9]? = some ce → ce.vm = .none → s.vm.findClass E = some ce.cls → vx_W p l e R s m args below meth c H1 locs1 (cells + mc) (slots + ms) Q (F0 m pc ls rest) q9)
    (kk : ∀ (r : Int32) (u : S) (t : State) (H1 : Heap) (locs1 : List Loc), t.heap = H1 → s.vm.Alike t.vm → post r u → B u t → H.size ≤ H1.size → (∀ q : Nat, q < H.size → ¬ A1 q → H1[q]? = H[q]?) → va_S A0 H0 H1 locs1 → W p l e R s m args below meth c H1 locs1 (cells + mc) (slots + ms) Q (F0 m (pc + 3) ls (.int r :: rest))) : W p l e R s m args below meth c H locs cells slots Q (F0 m pc ls st0) := by
  intro T hT X
  rcases hr T hT X with ⟨v, st₀, t, T', L, h0, X', hL, e1, e2, ⟨⟨r, u, hv, hp, hb⟩, hF⟩, st⟩ | ⟨q, st₀, t, T', L, E, ce, h0, X', hL, e1, e2, ⟨u, hp, hb, hF⟩, hce, hcv, hcl, st⟩
  · cases hv
    obtain ⟨k1, k2, k3⟩ := vx_keep h0 e1 hS hA hf hL hF
    obtain ⟨t2, a1, b1⟩ := kk r u t T'.heap (locs ++ L) e1.symm (by rw [← e2]; exact X'.warmed.alike) hp hb k1 k2 k3 T' rfl X'
    exact ⟨t2, st t2 a1, b1⟩
  · obtain ⟨k1, k2, k3⟩ := vx_keep h0 e1 hS hAX hf hL hF
    obtain ⟨t2, a1, b1⟩ := kx E ce q u t T'.heap (locs ++ L) e1.symm (by rw [← e2]; exact X'.warmed.alike) hp hb k1 k2 k3 (by rw [e1]; exact hce) hcv hcl T' rfl X'
    exact ⟨t2, st.trans a1, b1⟩
theorem vx_calll {S SX : Type} {post : Int64 → S → Prop} {px : SX → Prop} {B : S → State → Prop} {BX : String → SX → State → Prop} {AX : Nat → Prop} (hr : vx_Run p l e R s m args below meth c H locs cells slots mc ms (F0 m pc ls st0) rest (va_Ql post B A1 a) (vx_X px BX AX) free) (hS : va_S A0 H0 H locs) (hA : ∀ q, q < H.size → A1 q → A0 q) (hf : ∀ q, free q → A0 q) (hAX : ∀ q, q < H.size → AX q → A0 q)
    (kx : ∀ (E : String) (ce : Cell) (q9 : Addr) (u : SX) (t : State) (H1 : Heap) (locs1 : List Loc), t.heap = H1 → s.vm.Alike t.vm → px u → BX E u t → H.size ≤ H1.size → (∀ q : Nat, q < H.size → ¬ AX q → H1[q]? = H[q]?) → va_S A0 H0 H1 locs1 → H1[q9]? = some ce → ce.vm = .none → s.vm.findClass E = some ce.cls → vx_W p l e R s m args below meth c H1 locs1 (cells + mc) (slots + ms) Q (F0 m pc ls rest) q9)
    (kk : ∀ (r : Int64) (u : S) (t : State) (H1 : Heap) (locs1 : List Loc), t.heap = H1 → s.vm.Alike t.vm → post r u → B u t → H.size ≤ H1.size → (∀ q : Nat, q < H.size → ¬ A1 q → H1[q]? = H[q]?) → va_S A0 H0 H1 locs1 → W p l e R s m args below meth c H1 locs1 (cells + mc) (slots + ms) Q (F0 m (pc + 3) ls (.long r :: rest))) : W p l e R s m args below meth c H locs cells slots Q (F0 m pc ls st0) := by
  intro T hT X
  rcases hr T hT X with ⟨v, st₀, t, T', L, h0, X', hL, e1, e2, ⟨⟨r, u, hv, hp, hb⟩, hF⟩, st⟩ | ⟨q, st₀, t, T', L, E, ce, h0, X', hL, e1, e2, ⟨u, hp, hb, hF⟩, hce, hcv, hcl, st⟩
  · cases hv
    obtain ⟨k1, k2, k3⟩ := vx_keep h0 e1 hS hA hf hL hF
    obtain ⟨t2, a1, b1⟩ := kk r u t T'.heap (locs ++ L) e1.symm (by rw [← e2]; exact X'.warmed.alike) hp hb k1 k2 k3 T' rfl X'
    exact ⟨t2, st t2 a1, b1⟩
  · obtain ⟨k1, k2, k3⟩ := vx_keep h0 e1 hS hAX hf hL hF
    obtain ⟨t2, a1, b1⟩ := kx E ce q u t T'.heap (locs ++ L) e1.symm (by rw [← e2]; exact X'.warmed.alike) hp hb k1 k2 k3 (by rw [e1]; exact hce) hcv hcl T' rfl X'
    exact ⟨t2, st.trans a1, b1⟩
theorem vx_callf {S SX : Type} {post : UInt32 → S → Prop} {px : SX → Prop} {B : S → State → Prop} {BX : String → SX → State → Prop} {AX : Nat → Prop} (hr : vx_Run p l e R s m args below meth c H locs cells slots mc ms (F0 m pc ls st0) rest (va_Qf post B A1 a) (vx_X px BX AX) free) (hS : va_S A0 H0 H locs) (hA : ∀ q, q < H.size → A1 q → A0 q) (hf : ∀ q, free q → A0 q) (hAX : ∀ q, q < H.size → AX q → A0 q)
    (kx : ∀ (E : String) (ce : Cell) (q9 : Addr) (u : SX) (t : State) (H1 : Heap) (locs1 : List Loc), t.heap = H1 → s.vm.Alike t.vm → px u → BX E u t → H.size ≤ H1.size → (∀ q : Nat, q < H.size → ¬ AX q → H1[q]? = H[q]?) → va_S A0 H0 H1 locs1 → H1[q9]? = some ce → ce.vm = .none → s.vm.findClass E = some ce.cls → vx_W p l e R s m args below meth c H1 locs1 (cells + mc) (slots + ms) Q (F0 m pc ls rest) q9)
    (kk : ∀ (r : UInt32) (u : S) (t : State) (H1 : Heap) (locs1 : List Loc), t.heap = H1 → s.vm.Alike t.vm → post r u → B u t → H.size ≤ H1.size → (∀ q : Nat, q < H.size → ¬ A1 q → H1[q]? = H[q]?) → va_S A0 H0 H1 locs1 → W p l e R s m args below meth c H1 locs1 (cells + mc) (slots + ms) Q (F0 m (pc + 3) ls (.float r :: rest))) : W p l e R s m args below meth c H locs cells slots Q (F0 m pc ls st0) := by
  intro T hT X
  rcases hr T hT X with ⟨v, st₀, t, T', L, h0, X', hL, e1, e2, ⟨⟨r, u, hv, hp, hb⟩, hF⟩, st⟩ | ⟨q, st₀, t, T', L, E, ce, h0, X', hL, e1, e2, ⟨u, hp, hb, hF⟩, hce, hcv, hcl, st⟩
  · cases hv
    obtain ⟨k1, k2, k3⟩ := vx_keep h0 e1 hS hA hf hL hF
    obtain ⟨t2, a1, b1⟩ := kk r u t T'.heap (locs ++ L) e1.symm (by rw [← e2]; exact X'.warmed.alike) hp hb k1 k2 k3 T' rfl X'
    exact ⟨t2, st t2 a1, b1⟩
  · obtain ⟨k1, k2, k3⟩ := vx_keep h0 e1 hS hAX hf hL hF
    obtain ⟨t2, a1, b1⟩ := kx E ce q u t T'.heap (locs ++ L) e1.symm (by rw [← e2]; exact X'.warmed.alike) hp hb k1 k2 k3 (by rw [e1]; exact hce) hcv hcl T' rfl X'
    exact ⟨t2, st.trans a1, b1⟩
theorem vx_calld {S SX : Type} {post : UInt64 → S → Prop} {px : SX → Prop} {B : S → State → Prop} {BX : String → SX → State → Prop} {AX : Nat → Prop} (hr : vx_Run p l e R s m args below meth c H locs cells slots mc ms (F0 m pc ls st0) rest (va_Qd post B A1 a) (vx_X px BX AX) free) (hS : va_S A0 H0 H locs) (hA : ∀ q, q < H.size → A1 q → A0 q) (hf : ∀ q, free q → A0 q) (hAX : ∀ q, q < H.size → AX q → A0 q)
    (kx : ∀ (E : String) (ce : Cell) (q9 : Addr) (u : SX) (t : State) (H1 : Heap) (locs1 : List Loc), t.heap = H1 → s.vm.Alike t.vm → px u → BX E u t → H.size ≤ H1.size → (∀ q : Nat, q < H.size → ¬ AX q → H1[q]? = H[q]?) → va_S A0 H0 H1 locs1 → H1[q9]? = some ce → ce.vm = .none → s.vm.findClass E = some ce.cls → vx_W p l e R s m args below meth c H1 locs1 (cells + mc) (slots + ms) Q (F0 m pc ls rest) q9)
    (kk : ∀ (r : UInt64) (u : S) (t : State) (H1 : Heap) (locs1 : List Loc), t.heap = H1 → s.vm.Alike t.vm → post r u → B u t → H.size ≤ H1.size → (∀ q : Nat, q < H.size → ¬ A1 q → H1[q]? = H[q]?) → va_S A0 H0 H1 locs1 → W p l e R s m args below meth c H1 locs1 (cells + mc) (slots + ms) Q (F0 m (pc + 3) ls (.double r :: rest))) : W p l e R s m args below meth c H locs cells slots Q (F0 m pc ls st0) := by
  intro T hT X
  rcases hr T hT X with ⟨v, st₀, t, T', L, h0, X', hL, e1, e2, ⟨⟨r, u, hv, hp, hb⟩, hF⟩, st⟩ | ⟨q, st₀, t, T', L, E, ce, h0, X', hL, e1, e2, ⟨u, hp, hb, hF⟩, hce, hcv, hcl, st⟩
  · cases hv
    obtain ⟨k1, k2, k3⟩ := vx_keep h0 e1 hS hA hf hL hF
    obtain ⟨t2, a1, b1⟩ := kk r u t T'.heap (locs ++ L) e1.symm (by rw [← e2]; exact X'.warmed.alike) hp hb k1 k2 k3 T' rfl X'
    exact ⟨t2, st t2 a1, b1⟩
  · obtain ⟨k1, k2, k3⟩ := vx_keep h0 e1 hS hAX hf hL hF
    obtain ⟨t2, a1, b1⟩ := kx E ce q u t T'.heap (locs ++ L) e1.symm (by rw [← e2]; exact X'.warmed.alike) hp hb k1 k2 k3 (by rw [e1]; exact hce) hcv hcl T' rfl X'
    exact ⟨t2, st.trans a1, b1⟩
theorem vx_callv {S SX : Type} {post : S → Prop} {px : SX → Prop} {B : S → State → Prop} {BX : String → SX → State → Prop} {AX : Nat → Prop} (hr : vx_Run p l e R s m args below meth c H locs cells slots mc ms (F0 m pc ls st0) rest (va_Qv post B A1 a) (vx_X px BX AX) free) (hS : va_S A0 H0 H locs) (hA : ∀ q, q < H.size → A1 q → A0 q) (hf : ∀ q, free q → A0 q) (hAX : ∀ q, q < H.size → AX q → A0 q)
    (kx : ∀ (E : String) (ce : Cell) (q9 : Addr) (u : SX) (t : State) (H1 : Heap) (locs1 : List Loc), t.heap = H1 → s.vm.Alike t.vm → px u → BX E u t → H.size ≤ H1.size → (∀ q : Nat, q < H.size → ¬ AX q → H1[q]? = H[q]?) → va_S A0 H0 H1 locs1 → H1[q9]? = some ce → ce.vm = .none → s.vm.findClass E = some ce.cls → vx_W p l e R s m args below meth c H1 locs1 (cells + mc) (slots + ms) Q (F0 m pc ls rest) q9)
    (kk : ∀ (u : S) (t : State) (H1 : Heap) (locs1 : List Loc), t.heap = H1 → s.vm.Alike t.vm → post u → B u t → H.size ≤ H1.size → (∀ q : Nat, q < H.size → ¬ A1 q → H1[q]? = H[q]?) → va_S A0 H0 H1 locs1 → W p l e R s m args below meth c H1 locs1 (cells + mc) (slots + ms) Q (F0 m (pc + 3) ls (rest))) : W p l e R s m args below meth c H locs cells slots Q (F0 m pc ls st0) := by
  intro T hT X
  rcases hr T hT X with ⟨v, st₀, t, T', L, h0, X', hL, e1, e2, ⟨⟨u, hv, hp, hb⟩, hF⟩, st⟩ | ⟨q, st₀, t, T', L, E, ce, h0, X', hL, e1, e2, ⟨u, hp, hb, hF⟩, hce, hcv, hcl, st⟩
  · cases hv
    obtain ⟨k1, k2, k3⟩ := vx_keep h0 e1 hS hA hf hL hF
    obtain ⟨t2, a1, b1⟩ := kk u t T'.heap (locs ++ L) e1.symm (by rw [← e2]; exact X'.warmed.alike) hp hb k1 k2 k3 T' rfl X'
    exact ⟨t2, st t2 a1, b1⟩
  · obtain ⟨k1, k2, k3⟩ := vx_keep h0 e1 hS hAX hf hL hF
    obtain ⟨t2, a1, b1⟩ := kx E ce q u t T'.heap (locs ++ L) e1.symm (by rw [← e2]; exact X'.warmed.alike) hp hb k1 k2 k3 (by rw [e1]; exact hce) hcv hcl T' rfl X'
    exact ⟨t2, st.trans a1, b1⟩
/-- caught by the row x of this method's table; the rows ahead don't take it -/
theorem vx_catch {own name : String} {E : String} {ce : Cell} {q : Addr} (hown : s.vm.findClass own = some m.cls) (pre : List ExceptionTableEntry) (x : ExceptionTableEntry) (suf : List ExceptionTableEntry) (hsplit : c.exceptionTable.toList = pre ++ x :: suf)
    (hpass : ∀ z ∈ pre, covers z pc = false ∨ (z.catchType ≠ 0 ∧ ∃ nm : String, (Cond.classLink own z.catchType nm).before args s = true ∧ va_Nc E nm s)) (hx : covers x pc = true) (h0 : x.catchType ≠ 0)
    (hlink : (Cond.classLink own x.catchType name).before args s = true) (hcast : (Cond.castable E name).before args s = true) (hcell : H[q]? = some ce) (hv : ce.vm = .none) (hcl : s.vm.findClass E = some ce.cls)
    (kk : W p l e R s m args below meth c H locs cells slots Q (F0 m x.handlerPc ls [.ref q])) : vx_W p l e R s m args below meth c H locs cells slots Q (F0 m pc ls rest) q := by
  intro T hT X
  have hpl : e.platform.magicAccessors = ({} : Platform).magicAccessors := by rw [X.admits.platform]
  obtain ⟨c3, c4, hc3, hc4, hasg⟩ := Cond.castable_spec hcast
  cases Option.some.inj (hc3.symm.trans hcl)
  obtain ⟨c5, hc5, hcl5⟩ := Cond.classLink_spec hown hlink e.platform hpl
  cases Option.some.inj (hc4.symm.trans hc5)
  obtain ⟨vm', X', st⟩ := X.thenCaughtThrough q (g := F0 m pc ls rest) rfl (Steps.refl _) (by rw [hT]; exact hcell) (by rw [hv]; rfl) (by obtain ⟨k9, h9, -⟩ := Vm.findClass_spec hcl; exact ⟨k9, h9⟩) pre x suf hsplit
    (fun z hz => by
      rcases hpass z hz with h | ⟨hz0, nm, hl1, hn1⟩
      · exact Or.inl h
      · obtain ⟨c6, hc6, hcl6⟩ := Cond.classLink_spec hown hl1 e.platform hpl
        obtain ⟨a8, b8, h1, h2, h3⟩ := hn1
        cases Option.some.inj (h1.symm.trans hcl)
        cases Option.some.inj (h2.symm.trans hc6)
        exact Or.inr ⟨hz0, _, hcl6, h3⟩) hx (Or.inr ⟨h0, c4, hcl5, hasg⟩)
  obtain ⟨t, a1, b1⟩ := kk (T.setVm vm') hT X'
  exact ⟨t, st.trans a1, b1⟩
end Rows
section Ends
variable {p : Program} {l : Launch} {e : Env} {R : Room} {s : State} {m : MethodId} {args : Array Value} {below : List Frame} {meth : Method} {c : Code} {H : Heap} {locs : List Loc} {cells slots : Nat} {Q : State → Prop}
variable {mc ms : Nat} {free : Addr → Prop} {A0 A1 : Nat → Prop} {H0 : Heap} {a : Array Value} {ls : Array Slot} {st0 rest : List Value}
variable {Qc : Array Value → State → Outcome → State → Prop} {XC : String → State → State → Prop}
/-- what a body that may throw owes at its end -/
def vx_MQ (below : List Frame) (Qc : Array Value → State → Outcome → State → Prop) (XC : String → State → State → Prop) (a : Array Value) (s : State) (mc ms : Nat) (free : Addr → Prop) : State → Prop := fun t =>
  ∃ o, t.status = .running ∧ Ended t below o ∧ vx_Q Qc XC mc ms free a s o t
theorem vx_ret {g : JFrame} {mc ms : Nat} (k : W p l e R s m args below meth c H locs cells slots (MQ below Qc args s mc ms free) g) : W p l e R s m args below meth c H locs cells slots (vx_MQ below Qc XC args s mc ms free) g := by
  intro T hT X
  obtain ⟨t, a1, o, b1, b2, b3, b4⟩ := k T hT X
  exact ⟨t, a1, o, b1, b2, Or.inl ⟨b3, b4⟩⟩
/-- not caught here: it goes on to the caller -/
theorem vx_widen {g : JFrame} {q : Addr} {k n : Nat} (h1 : cells ≤ k) (h2 : slots ≤ n) (kk : vx_W p l e R s m args below meth c H locs k n Q g q) : vx_W p l e R s m args below meth c H locs cells slots Q g q := fun T hT X => kk T hT (stand_widen X h1 h2)
theorem vx_out {pc : Nat} {E : String} {ce : Cell} {q : Addr} {mc ms : Nat} (hout : ∀ x ∈ c.exceptionTable.toList, covers x pc = false) (hlocks : meth.locks = false) (hcell : H[q]? = some ce) (hv : ce.vm = .none) (hcl : s.vm.findClass E = some ce.cls)
    (hx : ∀ t : State, t.heap = H → s.vm.Alike t.vm → XC E s t) (hf : ∀ z ∈ locs, free z.base) (hc : cells ≤ mc) (hs : slots ≤ ms) :
    vx_W p l e R s m args below meth c H locs cells slots (vx_MQ below Qc XC args s mc ms free) (F0 m pc ls rest) q := by
  intro T hT X
  obtain ⟨st1, hrun, hend, hW, hsm⟩ := X.leaveThrown q (g := F0 m pc ls rest) rfl rfl rfl hout hlocks
  have hcell9 : (T.setFrames (.throwing q :: below)).heap[q]? = some ce := by
    show T.heap[q]? = some ce
    rw [hT]; exact hcell
  exact ⟨_, st1, .threw q, hrun, hend, Or.inr ⟨q, rfl, E, ce, locs, hx _ hT hW.alike, hcell9, hv, hcl, hW, hsm.mono hc hs, hf⟩⟩
theorem vx_frame {U : State} {k n : Nat} (h : s.sameButNew ({ U with vm := s.vm } : State) locs k n) : s.heap.size ≤ U.heap.size ∧ ∀ q : Nat, q < s.heap.size → (∀ z ∈ locs, z.base ≠ q) → U.heap[q]? = s.heap[q]? := by
  obtain ⟨-, h2, -, -, -, h6⟩ := h
  refine ⟨h2, fun q hq hz => ?_⟩
  obtain ⟨c9, e1, e2, e3, e4⟩ := h6 q _ (Array.getElem?_eq_getElem hq)
  have hs : c9.slots = (s.heap[q]).slots := Array.ext_getElem? fun i => e4 i fun hm => hz _ hm rfl
  have h9 : c9 = s.heap[q] := by
    rw [hs] at e2
    exact e2
  have e5 : U.heap[q]? = some c9 := e1
  rw [e5, h9, Array.getElem?_eq_getElem hq]
/-- the words of a throw but the four that speak of the heap -/
def vx_no (w : Cond) : Bool := decide (w ≠ .isRef (.static Bundle.tN "UNASSIGNED_STACK" Bundle.steD)) && decide (w ≠ .isRef (.static Bundle.tN "SUPPRESSED_SENTINEL" Bundle.listD)) && decide (w ≠ .laysStatic Bundle.tN "UNASSIGNED_STACK" Bundle.steD) && decide (w ≠ .laysStatic Bundle.tN "SUPPRESSED_SENTINEL" Bundle.listD)
def vx_at0 (own : String) (ic : Nat) (X : String) (names : List String) : List Cond := (Bundle.ownAtoms0 own ic X names).filter vx_no
def vx_atS (own : String) (ic : Nat) (X : String) (names : List String) : List Cond := (Bundle.ownAtoms own ic X names).filter vx_no
/-- a word that the tables alone decide, or a good one -/
def vx_ot (w : Cond) : Bool := w.onTables || goodWord w
theorem vx_ot_at {args a' : Array Value} {s U : State} {w : Cond} (hW : s.WarmedH U.vm) (hvm : s.vm = U.vm) (hg : vx_ot w = true) (h : w.before args s = true) : w.before a' U = true := by
  simp only [vx_ot, Bool.or_eq_true] at hg
  rcases hg with hg | hg
  · exact va_tabs hg hvm h
  · exact word_at hW (good_of_word hg) h
/-- a list's words: the good ones out of the method's own list, the others by premises of their own -/
theorem vx_hat {args : Array Value} {s : State} {L B : List Cond} (h1 : ∀ w ∈ L.filter goodWord, w.before args s = true) (h2 : ∀ w ∈ L.filter (fun w => !goodWord w), w ∈ B) (h3 : ∀ w ∈ B, w.before args s = true) : ∀ w ∈ L, w.before args s = true := by
  intro w hw
  by_cases g : goodWord w = true
  · exact h1 w (List.mem_filter.mpr ⟨hw, g⟩)
  · refine h3 w (h2 w (List.mem_filter.mpr ⟨hw, ?_⟩))
    show (!goodWord w) = true
    cases hgw : goodWord w
    · rfl
    · exact absurd hgw g
theorem vx_c {args : Array Value} {s : State} {w : Cond} {B : List Cond} (h : w.before args s = true) (t : ∀ w ∈ B, w.before args s = true) : ∀ w' ∈ w :: B, w'.before args s = true := fun w' h' => (List.mem_cons.mp h').elim (fun e => by rw [e]; exact h) (t w')
theorem vx_n {args : Array Value} {s : State} : ∀ w ∈ ([] : List Cond), w.before args s = true := fun _ h => nomatch h
theorem vx_own {args : Array Value} {s : State} {L : List Cond} (h1 : ∀ w ∈ L.filter vx_no, w.before args s = true)
    (hU : (Cond.isRef (.static Bundle.tN "UNASSIGNED_STACK" Bundle.steD)).before args s = true) (hN : (Cond.isRef (.static Bundle.tN "SUPPRESSED_SENTINEL" Bundle.listD)).before args s = true)
    (lU : (Cond.laysStatic Bundle.tN "UNASSIGNED_STACK" Bundle.steD).before args s = true) (lN : (Cond.laysStatic Bundle.tN "SUPPRESSED_SENTINEL" Bundle.listD).before args s = true) : ∀ w ∈ L, w.before args s = true := by
  intro w hw
  by_cases e1 : w = .isRef (.static Bundle.tN "UNASSIGNED_STACK" Bundle.steD)
  · rw [e1]; exact hU
  · by_cases e2 : w = .isRef (.static Bundle.tN "SUPPRESSED_SENTINEL" Bundle.listD)
    · rw [e2]; exact hN
    · by_cases e3 : w = .laysStatic Bundle.tN "UNASSIGNED_STACK" Bundle.steD
      · rw [e3]; exact lU
      · by_cases e4 : w = .laysStatic Bundle.tN "SUPPRESSED_SENTINEL" Bundle.listD
        · rw [e4]; exact lN
        · exact h1 w (List.mem_filter.mpr ⟨hw, by unfold vx_no; rw [decide_eq_true e1, decide_eq_true e2, decide_eq_true e3, decide_eq_true e4]; rfl⟩)
/-- where a static field lies, its class's statics cell in H -/
def vx_L (C n d : String) (A : Nat → Prop) (U : State) (H : Heap) : Prop := ∃ (c : ClassId) (k : Class) (i : Nat) (f : Field) (a : Nat) (cell : Cell), U.vm.findClass C = some c ∧ U.fieldFound? C n d = some (c, k, i, f) ∧ f.isStatic = true ∧ k.statics = some a ∧ H[a]? = some cell ∧ cell.vm.isStatics = true ∧ cell.cls = c ∧ f.slot < cell.slots.size ∧ k.staticTypes[f.slot]? = some f.type ∧ ¬ A a
theorem vx_L.moved {C n d : String} {A : Nat → Prop} {u U : State} {H : Heap} (hvm : u.vm.Alike U.vm) (h : vx_L C n d A u H) : vx_L C n d A U H := by
  obtain ⟨c, k, i, f, a, cell, h1, h2, h3, h4, h5, h6, h7, h8, h9, h10⟩ := h
  obtain ⟨k', hi', he⟩ := State.fieldFound?_setVm hvm h2
  exact ⟨c, k', i, f, a, cell, by rw [hvm.findClass]; exact h1, hi', h3, by rw [he]; exact h4, h5, h6, h7, h8, by rw [he]; exact h9, h10⟩
theorem vx_L.kept {C n d : String} {A : Nat → Prop} {U : State} {H H1 : Heap} (h : vx_L C n d A U H) (hq : ∀ a : Nat, a < H.size → ¬ A a → H1[a]? = H[a]?) : vx_L C n d A U H1 := by
  obtain ⟨c, k, i, f, a, cell, h1, h2, h3, h4, h5, h6, h7, h8, h9, h10⟩ := h
  exact ⟨c, k, i, f, a, cell, h1, h2, h3, h4, by rw [hq a (Array.getElem?_eq_some_iff.mp h5).1 h10]; exact h5, h6, h7, h8, h9, h10⟩
theorem vx_L.narrow {C n d : String} {A B : Nat → Prop} {U : State} {H : Heap} (h : vx_L C n d A U H) (hAB : ∀ q, B q → A q) : vx_L C n d B U H := by
  obtain ⟨c, k, i, f, a, cell, h1, h2, h3, h4, h5, h6, h7, h8, h9, h10⟩ := h
  exact ⟨c, k, i, f, a, cell, h1, h2, h3, h4, h5, h6, h7, h8, h9, fun z => h10 (hAB _ z)⟩
theorem vx_L.word {C n d : String} {A : Nat → Prop} {s : State} {args : Array Value} (h : vx_L C n d A s s.heap) : (Cond.laysStatic C n d).before args s = true := by
  obtain ⟨c, k, i, f, a, cell, h1, h2, h3, h4, h5, h6, h7, h8, h9, -⟩ := h
  show (Cond.laysStatic C n d).holds args s none s [] = true
  exact Cond.laysStatic_of h1 h2 h3 h4 h5 h6 h7 h8 h9
/-- .. and what it holds: null or some reference -/
def vx_Zq (C n d : String) (A : Nat → Prop) (U : State) (H : Heap) : Prop := va_Zq C n d A U H ∧ vx_L C n d A U H
theorem vx_Zq.moved {C n d : String} {A : Nat → Prop} {u U : State} {H : Heap} (hvm : u.vm.Alike U.vm) (h : vx_Zq C n d A u H) : vx_Zq C n d A U H := ⟨va_Zq.moved hvm h.1, vx_L.moved hvm h.2⟩
theorem vx_Zq.kept {C n d : String} {A : Nat → Prop} {U : State} {H H1 : Heap} (h : vx_Zq C n d A U H) (hq : ∀ a : Nat, a < H.size → ¬ A a → H1[a]? = H[a]?) : vx_Zq C n d A U H1 := ⟨va_Zq.kept h.1 hq, vx_L.kept h.2 hq⟩
theorem vx_Zq.narrow {C n d : String} {A B : Nat → Prop} {U : State} {H : Heap} (h : vx_Zq C n d A U H) (hAB : ∀ q, B q → A q) : vx_Zq C n d B U H := ⟨va_Zq.narrow h.1 hAB, vx_L.narrow h.2 hAB⟩
theorem vx_Zqof {args : Array Value} {s : State} {C n d : String} {A : Nat → Prop} (hl : (Cond.laysStatic C n d).before args s = true) (hini : (Cond.initialized C).before args s = true) (h : (Cond.isRef (.static C n d)).before args s = true) (hA : ∀ a : Nat, a < s.heap.size → ¬ A a) : vx_Zq C n d A s s.heap := by
  refine ⟨va_Zqof hl hini h hA, ?_⟩
  obtain ⟨c, k, i, f, a, cell, h1, h2, h3, h4, h5, h6, h7, h8, h9⟩ := Cond.laysStatic_spec hl
  exact ⟨c, k, i, f, a, cell, h1, h2, h3, h4, h5, h6, h7, h8, h9, hA a (Array.getElem?_eq_some_iff.mp h5).1⟩
theorem vx_isRef {C n d : String} {v : Value} {A : Nat → Prop} {s : State} {args : Array Value} (h : va_Z C n d v A s s.heap) (hv : v.isRef = true) : (Cond.isRef (.static C n d)).before args s = true := by
  obtain ⟨cf, kf, fi, f, a, cell, h1, h2, h3, h4, h5, h6, h7, -⟩ := h
  have he : (Term.static C n d).eval args s none [] s = some v := by
    simp [Term.eval, State.fieldNamed?, h1, h2, h4, h5, h6, h7]
  simp only [Cond.before, Cond.holds, Cond.value, he]
  cases v <;> simp_all [Value.isRef]
theorem vx_isRefq {C n d : String} {A : Nat → Prop} {s : State} {args : Array Value} (h : va_Zq C n d A s s.heap) : (Cond.isRef (.static C n d)).before args s = true := by
  rcases h with h | ⟨t, h⟩
  · exact vx_isRef h rfl
  · exact vx_isRef h rfl
/-- the same frame, seen from here: as if the method were called anew in this heap -/
theorem vx_rebase {T : State} (X : Stand p l e R s m args below meth c T locs cells slots) {R' : Room} (hf : R'.frames ≤ R.frames) (hl : R'.locals ≤ R.locals) (hc : cells + R'.cells ≤ R.cells) (hs : slots + R'.slots ≤ R.slots) :
    Stand p l e R' ((T.setVm s.vm).setFrames (.invoking m args :: below)) m args below meth c T [] 0 0 := by
  have htop : (T.setVm s.vm).topJava?.isSome := X.here.top
  have hF : ((T.setVm s.vm).setFrames (.invoking m args :: below)).frames = .invoking m args :: below := State.frames_setFrames _ (State.cur_lt_of_top htop)
  obtain ⟨g₀, hg0⟩ := Option.isSome_iff_exists.mp htop
  obtain ⟨r, hr⟩ := State.topJava?_eq_some.mp hg0
  have hl9 : e.platform.stackLimits (T.setVm s.vm).me = e.platform.stackLimits s.me := X.limits
  have hb9 : (T.setVm s.vm).me.stackBytes = s.me.stackBytes := X.bytes
  refine ⟨X.admits, X.cas, X.clock, hF, ?_, X.hears, X.method, X.code, X.here, X.tail, X.warmed, ?_, ?_, ?_⟩
  · have h := X.room
    have hU : ((T.setVm s.vm).setFrames (.invoking m args :: below)).localsInUse = s.localsInUse := by
      rw [State.localsInUse_invoking hF (meth := meth) (c := c) X.method X.code, State.localsInUse_invoking X.frames X.method X.code]
    simp only [State.hasRoom, Bool.and_eq_true, decide_eq_true_eq] at h ⊢
    obtain ⟨⟨⟨⟨h1, h2, h3, h4, h5, h6⟩, h7⟩, h8⟩, h9⟩ := h
    rw [X.frames, List.length_cons] at h2 h3
    have q1 := X.heapSize
    have q2 := X.used
    simp only [hF, hU, List.length_cons, State.stackLimits_setFrames, State.stackBytes_setFrames, hl9, hb9]
    refine ⟨⟨⟨⟨by omega, by omega, by omega, by omega, by omega, h6⟩, ?_⟩, ?_⟩, X.book⟩
    · show T.heap.size + R'.cells ≤ e.platform.maxCells
      omega
    · show T.slotsUsed + R'.slots ≤ e.platform.maxSlots
      omega
  · rw [State.stackLimits_setFrames]; rfl
  · rw [State.stackBytes_setFrames]; rfl
  · refine ⟨?_, Nat.le_refl _, Nat.le_refl _, ?_, ?_, fun a c9 h9 => ⟨c9, h9, rfl, rfl, fun _ _ => rfl⟩⟩
    · obtain ⟨t, ht, -⟩ := State.frames_cons hr
      show T.setVm s.vm = { ((T.setVm s.vm).setFrames (.invoking m args :: below)).setFrames (T.setVm s.vm).frames with heap := T.heap, slotsUsed := T.slotsUsed }
      rw [State.setFrames_setFrames, State.setFrames_self ht]
      rfl
    · show T.slotsUsed = T.slotsUsed + ((T.heap.toList.drop T.heap.size).map (·.slots.size)).sum
      rw [List.drop_eq_nil_of_le (Nat.le_of_eq Array.length_toList)]
      rfl
    · show ((T.heap.toList.drop T.heap.size).map (·.slots.size)).sum ≤ 0
      rw [List.drop_eq_nil_of_le (Nat.le_of_eq Array.length_toList)]
      exact Nat.le_refl _
/-- 'throw new E()': new; dup; invokespecial; athrow -/
theorem vx_throw0 {cc : ByteArray} {pc : Nat} (hexec : p.tables.exec = Jvm.exec) (hb : c.code = cc) (hl : l.stackTraces = false) {own cls : String} {names : List String} {ik ic mc ms : Nat} {A : Nat → Prop}
    (hown : s.vm.findClass own = some m.cls) (hcls : Bundle.fit cls = true) (hnames : ∀ n ∈ names, Bundle.fit n = true)
    (hk : (Cond.classLink own ik cls).before args s = true) (hini : (Cond.initialized cls).before args s = true) (hat : ∀ w ∈ vx_at0 own ic cls names, w.before args s = true)
    (hgood : ∀ w ∈ Cond.classLink own ik cls :: Cond.initialized cls :: vx_at0 own ic cls names, vx_ot w = true)
    (hU : vx_Zq Bundle.tN "UNASSIGNED_STACK" Bundle.steD A s s.heap) (hN : vx_Zq Bundle.tN "SUPPRESSED_SENTINEL" Bundle.listD A s s.heap) (hS : va_S A s.heap H locs) (hsize : ls.size = c.maxLocals)
    (d0 : decode cc pc = .ok (.new ik, 3)) (d3 : decode cc (pc + 3) = .ok (.dup, 1)) (d4 : decode cc (pc + 4) = .ok (.invokespecial ic, 3)) (d7 : decode cc (pc + 7) = .ok (.athrow, 1))
    (hout : ∀ x ∈ c.exceptionTable.toList, covers x (pc + 7) = false)
    (hRframes : names.length + 3 < R.frames) (hRlocals : (rest.map fun v => v.category).sum + (13 * (names.length + 1) + 42) ≤ R.locals) (hRcells : cells + 1 ≤ R.cells) (hRslots : slots + 6 ≤ R.slots) (hlocks : meth.locks = false)
    (hx : ∀ t : State, s.vm.Alike t.vm → H.size ≤ t.heap.size → (∀ q : Nat, q < H.size → t.heap[q]? = H[q]?) → XC cls s t)
    (hf : ∀ z ∈ locs, free z.base) (hc : cells + 1 ≤ mc) (hs : slots + 6 ≤ ms) :
    W p l e R s m args below meth c H locs cells slots (vx_MQ below Qc XC args s mc ms free) (F0 m pc ls rest) := by
  intro T hT X
  have htr : e.platform.stackTraces = false := (show e.platform.stackTraces = l.stackTraces by rw [X.admits.platform]).trans hl
  have Y := vx_rebase X (R' := { frames := R.frames, locals := R.locals, cells := 1, slots := 6 }) (Nat.le_refl _) (Nat.le_refl _) hRcells hRslots
  obtain ⟨s', hA⟩ : ∃ z, z = (T.setVm s.vm).setFrames (.invoking m args :: below) := ⟨_, rfl⟩
  rw [← hA] at Y
  have hvm : s'.vm = s.vm := by rw [hA]; rfl
  have hhp : s'.heap = H := by rw [hA]; exact hT
  have hW0 : s.WarmedH s'.vm := by rw [hvm]; exact State.WarmedH.refl s
  have hat' : ∀ w ∈ vx_at0 own ic cls names, w.before args s' = true := fun w hw => vx_ot_at hW0 hvm.symm (hgood w (List.mem_cons_of_mem _ (List.mem_cons_of_mem _ hw))) (hat w hw)
  have hk' : (Cond.classLink own ik cls).before args s' = true := vx_ot_at hW0 hvm.symm (hgood _ List.mem_cons_self) hk
  have hini' : (Cond.initialized cls).before args s' = true := vx_ot_at hW0 hvm.symm (hgood _ (List.mem_cons_of_mem _ List.mem_cons_self)) hini
  have hU' : vx_Zq Bundle.tN "UNASSIGNED_STACK" Bundle.steD A s' s'.heap := by rw [hhp]; exact vx_Zq.moved hW0.alike (hU.kept hS.2.1)
  have hN' : vx_Zq Bundle.tN "SUPPRESSED_SENTINEL" Bundle.listD A s' s'.heap := by rw [hhp]; exact vx_Zq.moved hW0.alike (hN.kept hS.2.1)
  have h : ∀ w ∈ Bundle.ownAtoms0 own ic cls names, w.before args s' = true := vx_own hat' (vx_isRefq hU'.1) (vx_isRefq hN'.1) hU'.2.word hN'.2.word
  have hown' : s'.vm.findClass own = some m.cls := by rw [hvm]; exact hown
  have hins : (Cond.instantiable cls 6).before args s' = true := h _ (by simp [Bundle.ownAtoms0])
  obtain ⟨vm₁, cX, kX, hfX, hkX, -, -, X₁, st1⟩ := Y.newCold hexec (own := own) (C := cls) (index := ik) (n := 6) hown' hk' hins hini'
    (g := F0 m pc ls rest) rfl (by rw [hb]; exact d0) (Nat.le_refl _) (Nat.le_refl _)
  generalize hT1 : (T.setVm vm₁).pushCell { cls := cX, slots := kX.instanceTypes.map defaultValue, vm := .none } = T1 at X₁ st1
  have hcat : (Value.ref T.heap.size).category = 1 := rfl
  have hcellA : T1.heap[T.heap.size]? = some (freshCell cX kX) := by rw [← hT1]; exact State.heap_pushCell_size _ _
  have d3' : decode c.code (pc + 3) = .ok (.dup, 1) := by rw [hb]; exact d3
  obtain ⟨U, hsteps, hrun, hend, hW, hsame, ce, hce, hO⟩ := X₁.ctorThrow0 hexec htr (own := own) (cls := cls) (names := names) (ic := ic) hown' hcls hnames h (fun x hx => nomatch hx) hfX hkX hcellA (by rw [hhp, hT]; exact Nat.le_refl _)
    (g := { method := m, pc := pc + 4, locals := ls, stack := .ref T.heap.size :: .ref T.heap.size :: rest, locked := none }) rfl hsize rfl rfl (rest := rest) rfl
    (by rw [hb]; exact d4) (by rw [hb]; exact d7) hout hRframes (by simp only [List.map_cons, List.sum_cons, hcat]; omega) hlocks
  obtain ⟨f1, f2⟩ := vx_frame hsame
  rw [hhp] at f1 f2
  have hWs : s.WarmedH U.vm := State.WarmedH.trans hW0 hW
  have hcl : s.vm.findClass cls = some ce.cls := by
    have h9 := hO.cls
    rw [hvm] at h9
    exact h9
  have hall : s.sameButNew ({ U with vm := s.vm } : State) locs mc ms := by
    subst hA
    obtain ⟨e1, e2⟩ := hsame
    rw [State.setFrames_setFrames] at e1
    have h2 : (T.setVm s.vm).sameButNew ({ U with vm := s.vm } : State) [] (0 + 1) (0 + 6) := ⟨e1, e2⟩
    have h3 := X.same.trans h2
    rw [List.append_nil] at h3
    exact h3.mono hc hs
  refine ⟨U, ?_, .threw T.heap.size, hrun, hend, Or.inr ⟨T.heap.size, rfl, cls, ce, locs, hx U hWs.alike f1 (fun q hq => f2 q hq (fun z hz => nomatch hz)), hce, hO.vm, hcl, hWs, hall, hf⟩⟩
  refine st1 _ ?_
  show Steps p.tables e below (T1.setTop { method := m, pc := pc + 3, locals := ls, stack := .ref T.heap.size :: rest, locked := none }) _
  jvm_step X₁.here [X₁.here.top, hexec, d3', Value.category]
  exact hsteps
/-- 'throw new E("text")': new; dup; ldc; invokespecial; athrow -/
theorem vx_throwS {cc : ByteArray} {pc : Nat} (hexec : p.tables.exec = Jvm.exec) (hb : c.code = cc) (hl : l.stackTraces = false) {own cls text : String} {names : List String} {ik is ic mc ms sa : Nat} {A : Nat → Prop}
    (hown : s.vm.findClass own = some m.cls) (hcls : Bundle.fit cls = true) (hnames : ∀ n ∈ names, Bundle.fit n = true)
    (hk : (Cond.classLink own ik cls).before args s = true) (hini : (Cond.initialized cls).before args s = true) (hstr : vk_R own is text sa s) (hat : ∀ w ∈ vx_atS own ic cls names, w.before args s = true)
    (hgood : ∀ w ∈ Cond.classLink own ik cls :: Cond.initialized cls :: vx_atS own ic cls names, vx_ot w = true)
    (hU : vx_Zq Bundle.tN "UNASSIGNED_STACK" Bundle.steD A s s.heap) (hN : vx_Zq Bundle.tN "SUPPRESSED_SENTINEL" Bundle.listD A s s.heap) (hS : va_S A s.heap H locs) (hsize : ls.size = c.maxLocals)
    (d0 : decode cc pc = .ok (.new ik, 3)) (d3 : decode cc (pc + 3) = .ok (.dup, 1)) (d4 : decode cc (pc + 4) = .ok (.ldc is, 2)) (d6 : decode cc (pc + 6) = .ok (.invokespecial ic, 3)) (d9 : decode cc (pc + 9) = .ok (.athrow, 1))
    (hout : ∀ x ∈ c.exceptionTable.toList, covers x (pc + 9) = false)
    (hRframes : names.length + 3 < R.frames) (hRlocals : (rest.map fun v => v.category).sum + (13 * (names.length + 1) + 43) ≤ R.locals) (hRcells : cells + 1 ≤ R.cells) (hRslots : slots + 6 ≤ R.slots) (hlocks : meth.locks = false)
    (hx : ∀ t : State, s.vm.Alike t.vm → H.size ≤ t.heap.size → (∀ q : Nat, q < H.size → t.heap[q]? = H[q]?) → XC cls s t)
    (hf : ∀ z ∈ locs, free z.base) (hc : cells + 1 ≤ mc) (hs : slots + 6 ≤ ms) :
    W p l e R s m args below meth c H locs cells slots (vx_MQ below Qc XC args s mc ms free) (F0 m pc ls rest) := by
  intro T hT X
  have htr : e.platform.stackTraces = false := (show e.platform.stackTraces = l.stackTraces by rw [X.admits.platform]).trans hl
  have Y := vx_rebase X (R' := { frames := R.frames, locals := R.locals, cells := 1, slots := 6 }) (Nat.le_refl _) (Nat.le_refl _) hRcells hRslots
  obtain ⟨s', hA⟩ : ∃ z, z = (T.setVm s.vm).setFrames (.invoking m args :: below) := ⟨_, rfl⟩
  rw [← hA] at Y
  have hvm : s'.vm = s.vm := by rw [hA]; rfl
  have hhp : s'.heap = H := by rw [hA]; exact hT
  have hW0 : s.WarmedH s'.vm := by rw [hvm]; exact State.WarmedH.refl s
  have hat' : ∀ w ∈ vx_atS own ic cls names, w.before args s' = true := fun w hw => vx_ot_at hW0 hvm.symm (hgood w (List.mem_cons_of_mem _ (List.mem_cons_of_mem _ hw))) (hat w hw)
  have hk' : (Cond.classLink own ik cls).before args s' = true := vx_ot_at hW0 hvm.symm (hgood _ List.mem_cons_self) hk
  have hini' : (Cond.initialized cls).before args s' = true := vx_ot_at hW0 hvm.symm (hgood _ (List.mem_cons_of_mem _ List.mem_cons_self)) hini
  have hU' : vx_Zq Bundle.tN "UNASSIGNED_STACK" Bundle.steD A s' s'.heap := by rw [hhp]; exact vx_Zq.moved hW0.alike (hU.kept hS.2.1)
  have hN' : vx_Zq Bundle.tN "SUPPRESSED_SENTINEL" Bundle.listD A s' s'.heap := by rw [hhp]; exact vx_Zq.moved hW0.alike (hN.kept hS.2.1)
  have h : ∀ w ∈ Bundle.ownAtoms own ic cls names, w.before args s' = true := vx_own hat' (vx_isRefq hU'.1) (vx_isRefq hN'.1) hU'.2.word hN'.2.word
  have hown' : s'.vm.findClass own = some m.cls := by rw [hvm]; exact hown
  have hins : (Cond.instantiable cls 6).before args s' = true := h _ (by simp [Bundle.ownAtoms])
  obtain ⟨vm₁, cX, kX, hfX, hkX, -, -, X₁, st1⟩ := Y.newCold hexec (own := own) (C := cls) (index := ik) (n := 6) hown' hk' hins hini'
    (g := F0 m pc ls rest) rfl (by rw [hb]; exact d0) (Nat.le_refl _) (Nat.le_refl _)
  generalize hT1 : (T.setVm vm₁).pushCell { cls := cX, slots := kX.instanceTypes.map defaultValue, vm := .none } = T1 at X₁ st1
  have hcat : (Value.ref T.heap.size).category = 1 := rfl
  have hcellA : T1.heap[T.heap.size]? = some (freshCell cX kX) := by rw [← hT1]; exact State.heap_pushCell_size _ _
  have d3' : decode c.code (pc + 3) = .ok (.dup, 1) := by rw [hb]; exact d3
  have d4' : decode c.code (pc + 4) = .ok (.ldc is, 2) := by rw [hb]; exact d4
  have hstr' : vk_R own is text sa s' := vk_R.warm hW0 hstr
  obtain ⟨U, hsteps, hrun, hend, hW, hsame, ce, hce, hO⟩ := X₁.ctorThrowS hexec htr (own := own) (cls := cls) (names := names) (ic := ic) hown' hcls hnames h (fun x hx => nomatch hx) hfX hkX hcellA (by rw [hhp, hT]; exact Nat.le_refl _) (msg := .ref sa) rfl
    (g := { method := m, pc := pc + 6, locals := ls, stack := .ref sa :: .ref T.heap.size :: .ref T.heap.size :: rest, locked := none }) rfl hsize rfl rfl (rest := rest) rfl
    (by rw [hb]; exact d6) (by rw [hb]; exact d9) hout hRframes (by simp only [List.map_cons, List.sum_cons, hcat]; omega) hlocks
  obtain ⟨f1, f2⟩ := vx_frame hsame
  rw [hhp] at f1 f2
  have hWs : s.WarmedH U.vm := State.WarmedH.trans hW0 hW
  have hcl : s.vm.findClass cls = some ce.cls := by
    have h9 := hO.cls
    rw [hvm] at h9
    exact h9
  have hall : s.sameButNew ({ U with vm := s.vm } : State) locs mc ms := by
    subst hA
    obtain ⟨e1, e2⟩ := hsame
    rw [State.setFrames_setFrames] at e1
    have h2 : (T.setVm s.vm).sameButNew ({ U with vm := s.vm } : State) [] (0 + 1) (0 + 6) := ⟨e1, e2⟩
    have h3 := X.same.trans h2
    rw [List.append_nil] at h3
    exact h3.mono hc hs
  refine ⟨U, ?_, .threw T.heap.size, hrun, hend, Or.inr ⟨T.heap.size, rfl, cls, ce, locs, hx U hWs.alike f1 (fun q hq => f2 q hq (fun z hz => nomatch hz)), hce, hO.vm, hcl, hWs, hall, hf⟩⟩
  refine st1 _ ?_
  show Steps p.tables e below (T1.setTop { method := m, pc := pc + 3, locals := ls, stack := .ref T.heap.size :: rest, locked := none }) _
  jvm_step X₁.here [X₁.here.top, hexec, d3', Value.category]
  exact X₁.ldcString hexec (own := own) (text := text) (index := is) (a := sa) hown' hstr'.1 hstr'.2
    (g := { method := m, pc := pc + 4, locals := ls, stack := .ref T.heap.size :: .ref T.heap.size :: rest, locked := none }) rfl d4' _ hsteps
/-- 'throw new E("text")', the text by a wide index -/
theorem vx_throwSW {cc : ByteArray} {pc : Nat} (hexec : p.tables.exec = Jvm.exec) (hb : c.code = cc) (hl : l.stackTraces = false) {own cls text : String} {names : List String} {ik is ic mc ms sa : Nat} {A : Nat → Prop}
    (hown : s.vm.findClass own = some m.cls) (hcls : Bundle.fit cls = true) (hnames : ∀ n ∈ names, Bundle.fit n = true)
    (hk : (Cond.classLink own ik cls).before args s = true) (hini : (Cond.initialized cls).before args s = true) (hstr : vk_R own is text sa s) (hat : ∀ w ∈ vx_atS own ic cls names, w.before args s = true)
    (hgood : ∀ w ∈ Cond.classLink own ik cls :: Cond.initialized cls :: vx_atS own ic cls names, vx_ot w = true)
    (hU : vx_Zq Bundle.tN "UNASSIGNED_STACK" Bundle.steD A s s.heap) (hN : vx_Zq Bundle.tN "SUPPRESSED_SENTINEL" Bundle.listD A s s.heap) (hS : va_S A s.heap H locs) (hsize : ls.size = c.maxLocals)
    (d0 : decode cc pc = .ok (.new ik, 3)) (d3 : decode cc (pc + 3) = .ok (.dup, 1)) (d4 : decode cc (pc + 4) = .ok (.ldc_w is, 3)) (d7 : decode cc (pc + 7) = .ok (.invokespecial ic, 3)) (d10 : decode cc (pc + 10) = .ok (.athrow, 1))
    (hout : ∀ x ∈ c.exceptionTable.toList, covers x (pc + 10) = false)
    (hRframes : names.length + 3 < R.frames) (hRlocals : (rest.map fun v => v.category).sum + (13 * (names.length + 1) + 43) ≤ R.locals) (hRcells : cells + 1 ≤ R.cells) (hRslots : slots + 6 ≤ R.slots) (hlocks : meth.locks = false)
    (hx : ∀ t : State, s.vm.Alike t.vm → H.size ≤ t.heap.size → (∀ q : Nat, q < H.size → t.heap[q]? = H[q]?) → XC cls s t)
    (hf : ∀ z ∈ locs, free z.base) (hc : cells + 1 ≤ mc) (hs : slots + 6 ≤ ms) :
    W p l e R s m args below meth c H locs cells slots (vx_MQ below Qc XC args s mc ms free) (F0 m pc ls rest) := by
  intro T hT X
  have htr : e.platform.stackTraces = false := (show e.platform.stackTraces = l.stackTraces by rw [X.admits.platform]).trans hl
  have Y := vx_rebase X (R' := { frames := R.frames, locals := R.locals, cells := 1, slots := 6 }) (Nat.le_refl _) (Nat.le_refl _) hRcells hRslots
  obtain ⟨s', hA⟩ : ∃ z, z = (T.setVm s.vm).setFrames (.invoking m args :: below) := ⟨_, rfl⟩
  rw [← hA] at Y
  have hvm : s'.vm = s.vm := by rw [hA]; rfl
  have hhp : s'.heap = H := by rw [hA]; exact hT
  have hW0 : s.WarmedH s'.vm := by rw [hvm]; exact State.WarmedH.refl s
  have hat' : ∀ w ∈ vx_atS own ic cls names, w.before args s' = true := fun w hw => vx_ot_at hW0 hvm.symm (hgood w (List.mem_cons_of_mem _ (List.mem_cons_of_mem _ hw))) (hat w hw)
  have hk' : (Cond.classLink own ik cls).before args s' = true := vx_ot_at hW0 hvm.symm (hgood _ List.mem_cons_self) hk
  have hini' : (Cond.initialized cls).before args s' = true := vx_ot_at hW0 hvm.symm (hgood _ (List.mem_cons_of_mem _ List.mem_cons_self)) hini
  have hU' : vx_Zq Bundle.tN "UNASSIGNED_STACK" Bundle.steD A s' s'.heap := by rw [hhp]; exact vx_Zq.moved hW0.alike (hU.kept hS.2.1)
  have hN' : vx_Zq Bundle.tN "SUPPRESSED_SENTINEL" Bundle.listD A s' s'.heap := by rw [hhp]; exact vx_Zq.moved hW0.alike (hN.kept hS.2.1)
  have h : ∀ w ∈ Bundle.ownAtoms own ic cls names, w.before args s' = true := vx_own hat' (vx_isRefq hU'.1) (vx_isRefq hN'.1) hU'.2.word hN'.2.word
  have hown' : s'.vm.findClass own = some m.cls := by rw [hvm]; exact hown
  have hins : (Cond.instantiable cls 6).before args s' = true := h _ (by simp [Bundle.ownAtoms])
  obtain ⟨vm₁, cX, kX, hfX, hkX, -, -, X₁, st1⟩ := Y.newCold hexec (own := own) (C := cls) (index := ik) (n := 6) hown' hk' hins hini'
    (g := F0 m pc ls rest) rfl (by rw [hb]; exact d0) (Nat.le_refl _) (Nat.le_refl _)
  generalize hT1 : (T.setVm vm₁).pushCell { cls := cX, slots := kX.instanceTypes.map defaultValue, vm := .none } = T1 at X₁ st1
  have hcat : (Value.ref T.heap.size).category = 1 := rfl
  have hcellA : T1.heap[T.heap.size]? = some (freshCell cX kX) := by rw [← hT1]; exact State.heap_pushCell_size _ _
  have d3' : decode c.code (pc + 3) = .ok (.dup, 1) := by rw [hb]; exact d3
  have d4' : decode c.code (pc + 4) = .ok (.ldc_w is, 3) := by rw [hb]; exact d4
  have hstr' : vk_R own is text sa s' := vk_R.warm hW0 hstr
  obtain ⟨U, hsteps, hrun, hend, hW, hsame, ce, hce, hO⟩ := X₁.ctorThrowS hexec htr (own := own) (cls := cls) (names := names) (ic := ic) hown' hcls hnames h (fun x hx => nomatch hx) hfX hkX hcellA (by rw [hhp, hT]; exact Nat.le_refl _) (msg := .ref sa) rfl
    (g := { method := m, pc := pc + 7, locals := ls, stack := .ref sa :: .ref T.heap.size :: .ref T.heap.size :: rest, locked := none }) rfl hsize rfl rfl (rest := rest) rfl
    (by rw [hb]; exact d7) (by rw [hb]; exact d10) hout hRframes (by simp only [List.map_cons, List.sum_cons, hcat]; omega) hlocks
  obtain ⟨f1, f2⟩ := vx_frame hsame
  rw [hhp] at f1 f2
  have hWs : s.WarmedH U.vm := State.WarmedH.trans hW0 hW
  have hcl : s.vm.findClass cls = some ce.cls := by
    have h9 := hO.cls
    rw [hvm] at h9
    exact h9
  have hall : s.sameButNew ({ U with vm := s.vm } : State) locs mc ms := by
    subst hA
    obtain ⟨e1, e2⟩ := hsame
    rw [State.setFrames_setFrames] at e1
    have h2 : (T.setVm s.vm).sameButNew ({ U with vm := s.vm } : State) [] (0 + 1) (0 + 6) := ⟨e1, e2⟩
    have h3 := X.same.trans h2
    rw [List.append_nil] at h3
    exact h3.mono hc hs
  refine ⟨U, ?_, .threw T.heap.size, hrun, hend, Or.inr ⟨T.heap.size, rfl, cls, ce, locs, hx U hWs.alike f1 (fun q hq => f2 q hq (fun z hz => nomatch hz)), hce, hO.vm, hcl, hWs, hall, hf⟩⟩
  refine st1 _ ?_
  show Steps p.tables e below (T1.setTop { method := m, pc := pc + 3, locals := ls, stack := .ref T.heap.size :: rest, locked := none }) _
  jvm_step X₁.here [X₁.here.top, hexec, d3', Value.category]
  exact X₁.ldcStringW hexec (own := own) (text := text) (index := is) (a := sa) hown' hstr'.1 hstr'.2
    (g := { method := m, pc := pc + 4, locals := ls, stack := .ref T.heap.size :: .ref T.heap.size :: rest, locked := none }) rfl d4' _ hsteps
end Ends
section Bodies
variable {l : Launch}
theorem vx_ofW {y : MethodName} {ws ws' : List Cond} {rm : Room} {Pc : Array Value → State → Prop} {Qc : Array Value → State → Outcome → State → Prop} {XC : String → State → State → Prop} {mc ms : Nat} {free : Addr → Prop} {cc : ByteArray} {maxL : Nat} {ret : Option FieldType}
    (hy : plainName y.cls = true) (hw : ws = Cond.code y cc maxL ret :: ws')
    (body : ∀ p e s m args below meth c s₁, BodyLoose p l y (headSpec ws rm) cc maxL ret e s m args below meth c s₁ → c.maxLocals = maxL → (∀ x ∈ c.exceptionTable.toList, False) → Pc args s →
      W p l e (headSpec ws rm).room s m args below meth c s.heap [] 0 0 (vx_MQ below Qc XC args s mc ms free) (entryFrame m args maxL)) : vx_Met l y ws rm Pc Qc XC mc ms free := by
  refine MetFree.of_bodyS (code := cc) (maxLocals := maxL) (ret := ret) hy ?_ ?_
  · intro args s m h hn
    obtain ⟨meth, c, h1, h2, h3, h4, h5, h6, -, -⟩ := Cond.code_spec hn (atoms_spec (ws := ws) h _ (by rw [hw]; exact List.mem_cons_self))
    exact ⟨meth, c, h1, h2, h3, h4, h5, h6⟩
  · intro p e s m args below meth c s₁ B hml hP _
    have hh0 : s₁.heap = s.heap := by rw [B.state]; rfl
    have ht : ∀ x ∈ c.exceptionTable.toList, False := by
      obtain ⟨meth9, c9, h1, h2, -, -, -, -, h7, -⟩ := Cond.code_spec B.named (atoms_spec (ws := ws) B.pre _ (by rw [hw]; exact List.mem_cons_self))
      cases Option.some.inj (h1.symm.trans B.method)
      cases Option.some.inj (h2.symm.trans (Stand.of_body B).code)
      intro x hx
      rw [Array.isEmpty_iff.mp h7] at hx
      cases hx
    obtain ⟨t, a1, o, b1, b2, b3⟩ := body p e s m args below meth c s₁ B hml ht hP s₁ hh0 (Stand.of_body B)
    exact ⟨t, o, a1, b1, b2, b3⟩
/-- the table of a body with handlers -/
theorem vx_table {p : Program} {x y : MethodName} {S : Spec} {cc bytes : ByteArray} {maxL maxL' : Nat} {ret ret' : Option FieldType} {e : Env} {s s₁ : State} {m : MethodId} {args : Array Value} {below : List Frame} {meth : Method} {c : Code} {hh : List (Nat × Nat × Nat × Nat)}
    (B : BodyLoose p l y S cc maxL ret e s m args below meth c s₁) (h : (Cond.codeWith y bytes maxL' ret' hh).before args s = true) : c.exceptionTable.toList = tableOf hh := by
  obtain ⟨m9, meth9, c9, hn9, h1, h2, -, -, h6, -⟩ := Cond.codeWith_spec h
  cases Option.some.inj (hn9.symm.trans B.named)
  cases Option.some.inj (h1.symm.trans B.method)
  cases Option.some.inj (h2.symm.trans (Stand.of_body B).code)
  rw [← h6, table_eq]
end Bodies
end VXA
/-! ===== END ===== -/
/-! ===== BEGIN a static call of a method with an exception table ===== -/
section VXS
variable {p : Program} {l : Launch} {e : Env} {R : Room} {s : State} {m : MethodId} {args : Array Value} {below : List Frame} {meth : Method} {c : Code} {T : State} {H : Heap} {locs : List Loc} {cells slots : Nat}
abbrev vx_CSW (R : Room) (s : State) (args : Array Value) (own : String) (index : Nat) (y : MethodName) (bytes : ByteArray) (maxL : Nat) (ret : Option FieldType) (hh : List (Nat × Nat × Nat × Nat)) (ws : List Cond) (rm : Room) (mc ms n : Nat) : Prop :=
  (rm.cells = mc ∧ rm.slots = ms ∧ rm.frames + 1 ≤ R.frames ∧ 8 + (maxL + 11) + rm.locals ≤ R.locals ∧ (∀ w ∈ ws, ∀ (a' : Array Value) (U : State), s.WarmedH U.vm → w.before a' U = true) ∧ Cond.codeWith y bytes maxL ret hh ∈ ws) ∧
  (Cond.codeWith y bytes maxL ret hh).before args s = true ∧ (Cond.initialized y.cls).before args s = true ∧ (y.cls ≠ "java/lang/invoke/MethodHandle" ∧ y.cls ≠ "java/lang/invoke/VarHandle") ∧
  (∀ sig, parseMethodDescriptor y.desc = some sig → n = sig.parameters.length) ∧ (Cond.methodLink own index y).before args s = true ∧ (Cond.static y).before args s = true
theorem vx_cwSW {own : String} {index maxL mc ms : Nat} {y : MethodName} {bytes : ByteArray} {ret : Option FieldType} {hh : List (Nat × Nat × Nat × Nat)} {Ts ws ws' : List Cond} {rm : Room} (n : Nat) (ht : ∀ w ∈ Ts, w.before args s = true) (hT : GoodIn Ts (va_wsS own index y ws)) (hw : ws = Cond.codeWith y bytes maxL ret hh :: ws') (hrc : rm.cells = mc) (hrs : rm.slots = ms)
    (hd : y.cls ≠ "java/lang/invoke/MethodHandle" ∧ y.cls ≠ "java/lang/invoke/VarHandle" ∧ (parseMethodDescriptor y.desc).map (fun d => d.parameters.length) = some n) (hR : rm.frames + 1 ≤ R.frames ∧ 8 + (maxL + 11) + rm.locals ≤ R.locals) :
    vx_CSW R s args own index y bytes maxL ret hh ws rm mc ms n := by
  have ok : ∀ w ∈ va_wsS own index y ws, w.before args s = true := fun w h => ht w (hT w h).1
  have hG : GoodIn Ts ws := fun w h => hT w (by unfold va_wsS; exact List.mem_append_right _ h)
  have hc : Cond.codeWith y bytes maxL ret hh ∈ ws := by rw [hw]; exact List.mem_cons_self
  refine ⟨⟨hrc, hrs, hR.1, hR.2, pay_in ht hG, hc⟩, ht _ (hG _ hc).1, ok _ (by simp [va_wsS]), ⟨hd.1, hd.2.1⟩, fun sig h => ?_, ok _ (by simp [va_wsS]), ok _ (by simp [va_wsS])⟩
  have h2 := hd.2.2
  rw [h] at h2
  exact (Option.some.inj h2).symm
theorem vx_callSW (X : Stand p l e R s m args below meth c T locs cells slots) (hexec : p.tables.exec = Jvm.exec) {own : String} {index : Nat} {y : MethodName} {bytes : ByteArray} {maxL : Nat} {ret : Option FieldType} {hh : List (Nat × Nat × Nat × Nat)}
    (hown : s.vm.findClass own = some m.cls) (hlink : (Cond.methodLink own index y).before args s = true) (hstat : (Cond.static y).before args s = true) (hinit : (Cond.initialized y.cls).before args s = true)
    (hcode : (Cond.codeWith y bytes maxL ret hh).before args s = true) (hy : y.cls ≠ "java/lang/invoke/MethodHandle" ∧ y.cls ≠ "java/lang/invoke/VarHandle")
    {W9 : Nat} {Pre : Pt → Array Value → Prop} {Post : Pt → Array Value → Option Value → Pt → Prop} (hK : Back l R p e below s args y 3 W9 Pre Post)
    {g : JFrame} (hg : g.method = m) (hsize : g.locals.size = c.maxLocals) {argsL rest : List Value} (hlen : ∀ sig, parseMethodDescriptor y.desc = some sig → argsL.length = sig.parameters.length)
    (hstack : g.stack = argsL.reverse ++ rest) (hW : 2 * g.monitorRoom + (rest.map fun v => v.category).sum ≤ W9) (hdg : decode c.code g.pc = .ok (.invokestatic index, 3))
    (hpre : ∀ vm₁, s.WarmedH vm₁ → Pre ⟨T.setVm vm₁, locs, cells, slots⟩ argsL.toArray) :
    ∃ (v : Option Value) (vm₁ : Vm) (B : Pt), s.WarmedH vm₁ ∧ Stand p l e R s m args below meth c B.U B.locs B.cells B.slots ∧ Post ⟨T.setVm vm₁, locs, cells, slots⟩ argsL.toArray v B ∧
      ∀ target, Steps p.tables e below (B.U.setTop { g with pc := g.pc + 3, stack := v.toList ++ rest }) target → Steps p.tables e below (T.setTop g) target := by
  obtain ⟨mk, methM, cM, hnamed, hmethM, -, -, -, -, -, -, hsigM⟩ := Cond.codeWith_spec hcode
  have hstatic : methM.isStatic = true := Cond.static_spec hnamed hmethM hstat
  obtain ⟨kP, hkP, -⟩ := className_of_methodNamed hnamed
  have hinitP : kP.init = .initialized := Cond.initialized_spec (findClass_of_methodNamed hnamed) hkP hinit
  obtain ⟨vm₁, X₁, hstep₁⟩ := X.invokestatic hexec hown hlink hnamed hmethM hstatic hkP hinitP hy (g := g) hg (argsL := argsL) (rest := rest) (hlen _ hsigM) hstack hdg
  obtain ⟨v, B, X', hpost, hsteps⟩ := hK m meth c ⟨T.setVm vm₁, locs, cells, slots⟩ { g with stack := rest } (.invokestatic index) mk argsL.toArray X₁ hg hsize hdg hW (X₁.named hnamed) (hpre vm₁ X₁.warmed)
  exact ⟨v, vm₁, B, X₁.warmed, X', hpost, fun target h => hstep₁ _ fun acts => by rw [doInvoke_state]; exact hsteps.trans h⟩
theorem vx_runSW {y : MethodName} {bytes cc : ByteArray} {maxL nL mc ms n index : Nat} {ret : Option FieldType} {hh : List (Nat × Nat × Nat × Nat)} {ws : List Cond} {rm : Room} {Pc : Array Value → State → Prop} {Qc : Array Value → State → Outcome → State → Prop} {free : Addr → Prop} {Ts : List Cond} {own : String} {As rest : List Value} {g : JFrame}
    (S : CallFix p m c cc nL s args Ts own) (hM : Met l y ws rm Pc Qc mc ms free) (cw : vx_CSW R s args own index y bytes maxL ret hh ws rm mc ms n) (hp : PreS s H Pc As)
    (hg : g.method = m) (hn : As.length = n) (hsize : g.locals.size = nL) (hstack : g.stack = As.reverse ++ rest) (hW : 2 * g.monitorRoom + (rest.map fun v => v.category).sum ≤ 8) (hdg : decode cc g.pc = .ok (.invokestatic index, 3)) (hf : cells + mc ≤ R.cells ∧ slots + ms ≤ R.slots) :
    va_Run p l e R s m args below meth c H locs cells slots mc ms g rest (Qc As.toArray) (free) := by
  obtain ⟨⟨hrc, hrs, hfr, hlo, hws, hcw⟩, hcode, hini, hy, hlen, hl, hstt⟩ := cw
  have hK : Back l R p e below s args y 3 8 (PreOf R mc ms Pc) (PostOf Qc mc ms free) := va_backW (hh := hh) (bytes := bytes) (maxL := maxL) (ret := ret) hM hp.1 hrc hrs hfr hlo hws hcw (fun a' U hW => word_at hW (Or.inl (by first | rfl | simp [Cond.onTables, Cond.keeps, Cond.steady])) hini)
  obtain ⟨hx, hb, hml, ho, -⟩ := S
  intro T hT X
  obtain ⟨v, vm₁, ⟨U', l2, c2, s2⟩, hW₁, X', ⟨g', mk, t, L, e1, e2, hq, h1, hL, h2, h3⟩, st⟩ := vx_callSW X hx (hh := hh) (bytes := bytes) (maxL := maxL) (ret := ret) ho hl hstt hini hcode hy hK hg (hsize.trans hml.symm) (argsL := As) (rest := rest) (fun sig h => hn.trans (hlen sig h)) hstack hW (by rw [hb]; exact hdg)
    (fun vm₁ hW₁ => ⟨hf.1, hf.2, hp.2 (T.setVm vm₁) hT hW₁⟩)
  dsimp only [Pt.U, Pt.locs, Pt.cells, Pt.slots] at X' e1 e2 h1 h2 h3 st
  subst h1; subst h2; subst h3
  exact ⟨v, (T.setVm vm₁).calling g' mk As.toArray, t, U', L, hT, X', hL, e1, e2, hq, st⟩
/-- not caught here, past rows that name other classes: it goes on to the caller -/
theorem vx_outP {p : Program} {l : Launch} {e : Env} {R : Room} {s : State} {m : MethodId} {args : Array Value} {below : List Frame} {meth : Method} {c : Code} {H : Heap} {locs : List Loc} {cells slots : Nat} {free : Addr → Prop} {ls : Array Slot} {rest : List Value} {Qc : Array Value → State → Outcome → State → Prop} {XC : String → State → State → Prop}
    {pc : Nat} {own E : String} {ce : Cell} {q : Addr} {mc ms : Nat} (hown : s.vm.findClass own = some m.cls) (hlocks : meth.locks = false)
    (hpass : ∀ z ∈ c.exceptionTable.toList, covers z pc = false ∨ (z.catchType ≠ 0 ∧ ∃ nm : String, (Cond.classLink own z.catchType nm).before args s = true ∧ va_Nc E nm s)) (hcell : H[q]? = some ce) (hv : ce.vm = .none) (hcl : s.vm.findClass E = some ce.cls)
    (hx : ∀ t : State, t.heap = H → s.vm.Alike t.vm → XC E s t) (hf : ∀ z ∈ locs, free z.base) (hc : cells ≤ mc) (hs : slots ≤ ms) :
    vx_W p l e R s m args below meth c H locs cells slots (vx_MQ below Qc XC args s mc ms free) (F0 m pc ls rest) q := by
  intro T hT X
  have hpl : e.platform.magicAccessors = ({} : Platform).magicAccessors := by rw [X.admits.platform]
  obtain ⟨vm', hW', X', st⟩ := X.outThrough hlocks q (g := F0 m pc ls rest) rfl rfl rfl (cell := ce) (by rw [hT]; exact hcell) (by rw [hv]; rfl)
    (by obtain ⟨k9, h9, -⟩ := Vm.findClass_spec hcl; exact ⟨k9, h9⟩) (fun z hz => by
      rcases hpass z hz with h | ⟨hz0, nm, hl1, hn1⟩
      · exact Or.inl h
      · obtain ⟨c6, hc6, hcl6⟩ := Cond.classLink_spec hown hl1 e.platform hpl
        obtain ⟨a8, b8, h1, h2, h3⟩ := hn1
        cases Option.some.inj (h1.symm.trans hcl)
        cases Option.some.inj (h2.symm.trans hc6)
        exact Or.inr ⟨hz0, _, hcl6, h3⟩)
  obtain ⟨g₀, hfr⟩ := X'.frames_eq
  have hcell9 : ((T.setVm vm').setFrames (.throwing q :: below)).heap[q]? = some ce := by
    show T.heap[q]? = some ce
    rw [hT]; exact hcell
  have hend : Ended ((T.setVm vm').setFrames (.throwing q :: below)) below (.threw q) := State.frames_setFrames _ (State.cur_lt_of_frames hfr)
  refine ⟨(T.setVm vm').setFrames (.throwing q :: below), ?_, .threw q, X'.here.running, hend, Or.inr ⟨q, rfl, E, ce, locs, hx _ hT (X'.ends _).1.alike, hcell9, hv, hcl, (X'.ends _).1, (X'.ends _).2.mono hc hs, hf⟩⟩
  rw [X.pushThrowing_eq]
  exact st
/-- a thing of a world lies in the heap -/
theorem vx_lt {D : va_G} {cl : List vw_C} {ws : va_W} {H1 : Heap} (h : va_P D cl ws H1) {k : Nat} {q : Nat × va_E} (hk : ws[k]? = some q) : q.1 < H1.size := (h k q hk).lt
end VXS
/-! ===== END ===== -/
/-! ===== BEGIN methods with a table of their own: called by a name, returning or throwing ===== -/
section VXH
/-! vx_backW, vx_callVX, vx_callSX, vx_callVW, vx_runVW, vx_runVX, vx_runSX, vx_ofWH follow the same proofs as their sisters above (Free/Laws.lean, Shelf42/LK1.lean); vx_outP calls Shelf42/NT130.lean (outThrough). -/
section
variable {l : Launch} {R : Room} {p : Program} {e : Env} {below : List Frame} {s : State} {sargs : Array Value} {y : MethodName} {len W9 : Nat}
theorem vx_backW {ws : List Cond} {rm : Room} {Pc : Array Value → State → Prop} {Qc : Array Value → State → Outcome → State → Prop} {XC : String → State → State → Prop} {mc ms : Nat} {free : Addr → Prop} {bytes : ByteArray} {maxL : Nat} {ret : Option FieldType} {hh : List (Nat × Nat × Nat × Nat)}
    (hM : vx_Met l y ws rm Pc Qc XC mc ms free) (hblind : FrameBlind Pc) (hrc : rm.cells = mc) (hrs : rm.slots = ms)
    (hframes : rm.frames + 1 ≤ R.frames) (hlocals : W9 + (maxL + 11) + rm.locals ≤ R.locals)
    (hws : ∀ w ∈ ws, ∀ a' U, s.WarmedH U.vm → w.before a' U = true) (hcode : Cond.codeWith y bytes maxL ret hh ∈ ws) (hinit : ∀ a' U, s.WarmedH U.vm → (Cond.initialized y.cls).before a' U = true) :
    vx_Back l R p e below s sargs y len W9 (PreOf R mc ms Pc) (PostOf Qc mc ms free) (vx_Post XC mc ms free) := by
  intro m meth c A g ig mk a X hg hsize hdg hW hn hp
  have h1 : (headSpec ws rm).pre.before a A.U = true := atoms_intro fun w hw => hws w hw _ _ X.warmed
  have h2 : (Cond.codeWith y bytes maxL ret hh).before a A.U = true := hws _ hcode _ _ X.warmed
  have h3 : (Cond.initialized y.cls).before a A.U = true := hinit _ _ X.warmed
  have h4 : A.cells + (headSpec ws rm).room.cells ≤ R.cells := by rw [show (headSpec ws rm).room.cells = mc from hrc]; exact hp.1
  have h5 : A.slots + (headSpec ws rm).room.slots ≤ R.slots := by rw [show (headSpec ws rm).room.slots = ms from hrs]; exact hp.2.1
  have hPc : Pc a (A.U.calling g mk a) := hblind _ _ _ _ hp.2.2
  obtain ⟨U, Ls, c0, s0⟩ := A
  dsimp only [Pt.U, Pt.locs, Pt.cells, Pt.slots] at h1 h2 h3 h4 h5 X hn hPc ⊢
  obtain ⟨m9, methY, cY, hn9, hmY, hcY, -, hlY, -⟩ := Cond.codeWith_spec h2
  cases Option.some.inj (hn9.symm.trans hn)
  obtain ⟨kY, hkY, -⟩ := className_of_methodNamed hn
  have hinitY : kY.init = .initialized := Cond.initialized_spec (findClass_of_methodNamed hn) hkY h3
  have h : At U g.method c below := by rw [hg]; exact X.here
  have hlocals9 : W9 + (maxL + 11) + (headSpec ws rm).room.locals ≤ R.locals := hlocals
  have happ : (headSpec ws rm).appliesLoose y e.platform (U.calling g mk a) = true :=
    Spec.appliesLoose_calling (g := g) h hdg hn hkY hinitY
      (X.room_calling (g := g) (R' := (headSpec ws rm).room) hsize hmY hcY hframes (by rw [hlY]; omega) h4 h5) h1
  obtain ⟨mid, hmid⟩ := h.above
  have hfr : (U.setTop g).frames = (.java g :: mid) ++ below := by rw [State.frames_setTop' g h.top, hmid]; rfl
  obtain ⟨o, s₂, hsteps, -, hend, hq⟩ := Steps.callFree hM p X.admits X.cas X.clock (acts := []) hfr happ hPc trivial
  have hq' : vx_Q Qc XC mc ms free a (U.calling g mk a) o s₂ := hq
  rw [State.frames_setTop' g h.top] at hend
  obtain ⟨g₀, hg0⟩ := Option.isSome_iff_exists.mp h.top
  obtain ⟨r, hr⟩ := State.topJava?_eq_some.mp hg0
  have hr' : (({ U with heap := s₂.heap, slotsUsed := s₂.slotsUsed } : State).setVm s₂.vm).frames = .java g₀ :: r := hr
  rcases hq' with ⟨hqc, L, hfe, hL⟩ | ⟨q, rfl, E, ce, L, hx, hce, hcv, hcl, hW₂, hsm, hL⟩
  · obtain ⟨⟨v, rfl⟩, hW₂, e2, q2, q3, q4, q5, q6⟩ := id hfe
    have e3 : s₂ = ({ (U.calling g mk a).setFrames s₂.frames with heap := s₂.heap, slotsUsed := s₂.slotsUsed } : State).setVm s₂.vm := by
      have : s₂ = ({ s₂ with vm := (U.calling g mk a).vm } : State).setVm s₂.vm := rfl
      rw [e2] at this
      exact this
    obtain ⟨c₂, i₂, len₂, hc₂, hd₂, hf₂⟩ := hend
    have hW' : U.WarmedH s₂.vm := hW₂
    have hcc : c₂ = c := by
      have h1 : s₂.code? g.method = U.code? g.method := by
        rw [State.code?_eq, State.code?_eq, hW'.alike.method?]
      exact Option.some.inj (hc₂.symm.trans (h1.trans h.code))
    subst hcc
    have hlen : len₂ = len := by rw [hdg] at hd₂; cases hd₂; rfl
    subst hlen
    have hs₂ : s₂ = (({ U with heap := s₂.heap, slotsUsed := s₂.slotsUsed } : State).setVm s₂.vm).setTop { g with pc := g.pc + len₂, stack := v.toList ++ g.stack } := by
      refine e3.trans ?_
      rw [hf₂, State.calling_eq h.top, State.setFrames_setFrames, State.setTop_of_frames _ hr', hr]
      rfl
    have hsame : U.sameButNew ({ U with heap := s₂.heap, slotsUsed := s₂.slotsUsed } : State) L mc ms := by
      refine ⟨?_, q2, q3, q4, q5, q6⟩
      obtain ⟨t, ht, -⟩ := State.frames_cons hr
      show ({ U with heap := s₂.heap, slotsUsed := s₂.slotsUsed } : State) = { U.setFrames U.frames with heap := s₂.heap, slotsUsed := s₂.slotsUsed }
      rw [State.setFrames_self ht]
    subst hg
    refine Or.inl ⟨v, ⟨(({ U with heap := s₂.heap, slotsUsed := s₂.slotsUsed } : State).setVm s₂.vm), Ls ++ L, c0 + mc, s0 + ms⟩,
      ⟨X.admits, X.cas, X.clock, X.frames, X.room, X.hears, X.method, X.code, (X.here.setHeapUsed s₂.heap s₂.slotsUsed).setVm hW'.alike, X.tail, State.WarmedH.trans X.warmed hW', X.limits, X.bytes, X.same.trans (hsame.setVm s.vm)⟩,
      ⟨g, mk, s₂, L, rfl, rfl, hqc, rfl, hL, rfl, rfl⟩, ?_⟩
    show Steps p.tables e below _ ((({ U with heap := s₂.heap, slotsUsed := s₂.slotsUsed } : State).setVm s₂.vm).setTop { g with pc := g.pc + len₂, stack := v.toList ++ g.stack })
    rw [← hs₂]
    exact hsteps
  · obtain ⟨e2, q2, q3, q4, q5, q6⟩ := id hsm
    have e3 : s₂ = ({ (U.calling g mk a).setFrames s₂.frames with heap := s₂.heap, slotsUsed := s₂.slotsUsed } : State).setVm s₂.vm := by
      have : s₂ = ({ s₂ with vm := (U.calling g mk a).vm } : State).setVm s₂.vm := rfl
      rw [e2] at this
      exact this
    have hf₂ : s₂.frames = .throwing q :: .java g :: U.frames.tail := hend
    have hW' : U.WarmedH s₂.vm := hW₂
    have hs₂ : s₂ = ((({ U with heap := s₂.heap, slotsUsed := s₂.slotsUsed } : State).setVm s₂.vm).setTop g).pushFrame (.throwing q) := by
      refine e3.trans ?_
      rw [hf₂, State.calling_eq h.top, State.setFrames_setFrames, State.pushFrame, State.frames_setTop _ hr', State.setTop_of_frames _ hr', State.setFrames_setFrames, hr]
      rfl
    have hsame : U.sameButNew ({ U with heap := s₂.heap, slotsUsed := s₂.slotsUsed } : State) L mc ms := by
      refine ⟨?_, q2, q3, q4, q5, q6⟩
      obtain ⟨t, ht, -⟩ := State.frames_cons hr
      show ({ U with heap := s₂.heap, slotsUsed := s₂.slotsUsed } : State) = { U.setFrames U.frames with heap := s₂.heap, slotsUsed := s₂.slotsUsed }
      rw [State.setFrames_self ht]
    subst hg
    refine Or.inr ⟨q, ⟨(({ U with heap := s₂.heap, slotsUsed := s₂.slotsUsed } : State).setVm s₂.vm), Ls ++ L, c0 + mc, s0 + ms⟩,
      ⟨X.admits, X.cas, X.clock, X.frames, X.room, X.hears, X.method, X.code, (X.here.setHeapUsed s₂.heap s₂.slotsUsed).setVm hW'.alike, X.tail, State.WarmedH.trans X.warmed hW', X.limits, X.bytes, X.same.trans (hsame.setVm s.vm)⟩,
      ⟨g, mk, s₂, L, E, ce, rfl, rfl, hx, hce, hcv, hcl, rfl, hL, rfl, rfl⟩, ?_⟩
    show Steps p.tables e below _ (((({ U with heap := s₂.heap, slotsUsed := s₂.slotsUsed } : State).setVm s₂.vm).setTop g).pushFrame (.throwing q))
    rw [← hs₂]
    exact hsteps
end
variable {p : Program} {l : Launch} {e : Env} {R : Room} {s : State} {m : MethodId} {args : Array Value} {below : List Frame} {meth : Method} {c : Code} {T : State} {H : Heap} {locs : List Loc} {cells slots : Nat}
theorem vx_callVX (X : Stand p l e R s m args below meth c T locs cells slots) (hexec : p.tables.exec = Jvm.exec) {own C : String} {index : Nat} {y : MethodName} {bytes : ByteArray} {maxL : Nat} {ret : Option FieldType} {hh : List (Nat × Nat × Nat × Nat)}
    (hown : s.vm.findClass own = some m.cls) (hlink : (Cond.methodLink own index y).before args s = true) (hinst : (Cond.instanceMethod y).before args s = true) (hsel : (Cond.selects C y y).before args s = true)
    (hcode : (Cond.codeWith y bytes maxL ret hh).before args s = true) (hy : y.cls ≠ "java/lang/invoke/MethodHandle" ∧ y.cls ≠ "java/lang/invoke/VarHandle")
    {W9 : Nat} {Pre : Pt → Array Value → Prop} {Post : Pt → Array Value → Option Value → Pt → Prop} {PostX : Pt → Array Value → Addr → Pt → Prop} (hK : vx_Back l R p e below s args y 3 W9 Pre Post PostX)
    {b : Addr} {cellB : Cell} (hcell : T.heap[b]? = some cellB) (hobj : cellB.vm.isStatics = false) (hcls : s.vm.findClass C = some cellB.cls)
    {g : JFrame} (hg : g.method = m) (hsize : g.locals.size = c.maxLocals) {argsL rest : List Value} (hlen : ∀ sig, parseMethodDescriptor y.desc = some sig → argsL.length = sig.parameters.length)
    (hstack : g.stack = argsL.reverse ++ .ref b :: rest) (hW : 2 * g.monitorRoom + (rest.map fun v => v.category).sum ≤ W9) (hdg : decode c.code g.pc = .ok (.invokevirtual index, 3))
    (hpre : ∀ vm₁, s.WarmedH vm₁ → Pre ⟨T.setVm vm₁, locs, cells, slots⟩ (Value.ref b :: argsL).toArray) :
    (∃ (v : Option Value) (vm₁ : Vm) (B : Pt), s.WarmedH vm₁ ∧ Stand p l e R s m args below meth c B.U B.locs B.cells B.slots ∧ Post ⟨T.setVm vm₁, locs, cells, slots⟩ (Value.ref b :: argsL).toArray v B ∧
      ∀ target, Steps p.tables e below (B.U.setTop { g with pc := g.pc + 3, stack := v.toList ++ rest }) target → Steps p.tables e below (T.setTop g) target) ∨
    (∃ (q : Addr) (vm₁ : Vm) (B : Pt), s.WarmedH vm₁ ∧ Stand p l e R s m args below meth c B.U B.locs B.cells B.slots ∧ PostX ⟨T.setVm vm₁, locs, cells, slots⟩ (Value.ref b :: argsL).toArray q B ∧
      Steps p.tables e below (T.setTop g) ((B.U.setTop { g with stack := rest }).pushFrame (.throwing q))) := by
  obtain ⟨mk, methM, hnamed, hmethM, hstM, habM⟩ := Cond.instanceMethod_spec hinst
  obtain ⟨m8, methM', cM, hn8, hmethM', -, -, -, -, -, -, hsigM⟩ := Cond.codeWith_spec hcode
  cases Option.some.inj (hn8.symm.trans hnamed)
  cases hmethM.symm.trans hmethM'
  obtain ⟨c2, r2, m2, q1, q2, q3, q4, kP, hkP, hkPi⟩ := Cond.selects_spec hsel
  cases hcls.symm.trans q1
  cases (State.methodFound?_of_named hnamed hy).symm.trans q2
  cases hnamed.symm.trans q3
  have hselP : selectMethod e.platform s.vm cellB.cls mk = .method mk := by rw [Launch.admits_selectMethod X.admits]; exact q4
  obtain ⟨vm₁, X₁, hstep₁⟩ := X.invokevirtual hexec hown hlink hnamed hmethM hstM hkP hkPi hy (a := b) (cell := cellB) hcell
    (fun z h => by rw [h] at hobj; cases hobj) hselP hmethM habM hkP hkPi (g := g) hg (argsL := argsL) (rest := rest) (hlen _ hsigM) hstack hdg
  rcases hK m meth c ⟨T.setVm vm₁, locs, cells, slots⟩ { g with stack := rest } (.invokevirtual index) mk (Value.ref b :: argsL).toArray X₁ hg hsize hdg hW (X₁.named hnamed) (hpre vm₁ X₁.warmed) with ⟨v, B, X', hpost, hsteps⟩ | ⟨q, B, X', hpost, hsteps⟩
  · exact Or.inl ⟨v, vm₁, B, X₁.warmed, X', hpost, fun target h => hstep₁ _ fun acts => by rw [doInvoke_state]; exact hsteps.trans h⟩
  · exact Or.inr ⟨q, vm₁, B, X₁.warmed, X', hpost, hstep₁ _ fun acts => by rw [doInvoke_state]; exact hsteps⟩
theorem vx_callSX (X : Stand p l e R s m args below meth c T locs cells slots) (hexec : p.tables.exec = Jvm.exec) {own : String} {index : Nat} {y : MethodName} {bytes : ByteArray} {maxL : Nat} {ret : Option FieldType} {hh : List (Nat × Nat × Nat × Nat)}
    (hown : s.vm.findClass own = some m.cls) (hlink : (Cond.methodLink own index y).before args s = true) (hstat : (Cond.static y).before args s = true) (hinit : (Cond.initialized y.cls).before args s = true)
    (hcode : (Cond.codeWith y bytes maxL ret hh).before args s = true) (hy : y.cls ≠ "java/lang/invoke/MethodHandle" ∧ y.cls ≠ "java/lang/invoke/VarHandle")
    {W9 : Nat} {Pre : Pt → Array Value → Prop} {Post : Pt → Array Value → Option Value → Pt → Prop} {PostX : Pt → Array Value → Addr → Pt → Prop} (hK : vx_Back l R p e below s args y 3 W9 Pre Post PostX)
    {g : JFrame} (hg : g.method = m) (hsize : g.locals.size = c.maxLocals) {argsL rest : List Value} (hlen : ∀ sig, parseMethodDescriptor y.desc = some sig → argsL.length = sig.parameters.length)
    (hstack : g.stack = argsL.reverse ++ rest) (hW : 2 * g.monitorRoom + (rest.map fun v => v.category).sum ≤ W9) (hdg : decode c.code g.pc = .ok (.invokestatic index, 3))
    (hpre : ∀ vm₁, s.WarmedH vm₁ → Pre ⟨T.setVm vm₁, locs, cells, slots⟩ argsL.toArray) :
    (∃ (v : Option Value) (vm₁ : Vm) (B : Pt), s.WarmedH vm₁ ∧ Stand p l e R s m args below meth c B.U B.locs B.cells B.slots ∧ Post ⟨T.setVm vm₁, locs, cells, slots⟩ argsL.toArray v B ∧
      ∀ target, Steps p.tables e below (B.U.setTop { g with pc := g.pc + 3, stack := v.toList ++ rest }) target → Steps p.tables e below (T.setTop g) target) ∨
    (∃ (q : Addr) (vm₁ : Vm) (B : Pt), s.WarmedH vm₁ ∧ Stand p l e R s m args below meth c B.U B.locs B.cells B.slots ∧ PostX ⟨T.setVm vm₁, locs, cells, slots⟩ argsL.toArray q B ∧
      Steps p.tables e below (T.setTop g) ((B.U.setTop { g with stack := rest }).pushFrame (.throwing q))) := by
  obtain ⟨mk, methM, cM, hnamed, hmethM, -, -, -, -, -, -, hsigM⟩ := Cond.codeWith_spec hcode
  have hstatic : methM.isStatic = true := Cond.static_spec hnamed hmethM hstat
  obtain ⟨kP, hkP, -⟩ := className_of_methodNamed hnamed
  have hinitP : kP.init = .initialized := Cond.initialized_spec (findClass_of_methodNamed hnamed) hkP hinit
  obtain ⟨vm₁, X₁, hstep₁⟩ := X.invokestatic hexec hown hlink hnamed hmethM hstatic hkP hinitP hy (g := g) hg (argsL := argsL) (rest := rest) (hlen _ hsigM) hstack hdg
  rcases hK m meth c ⟨T.setVm vm₁, locs, cells, slots⟩ { g with stack := rest } (.invokestatic index) mk argsL.toArray X₁ hg hsize hdg hW (X₁.named hnamed) (hpre vm₁ X₁.warmed) with ⟨v, B, X', hpost, hsteps⟩ | ⟨q, B, X', hpost, hsteps⟩
  · exact Or.inl ⟨v, vm₁, B, X₁.warmed, X', hpost, fun target h => hstep₁ _ fun acts => by rw [doInvoke_state]; exact hsteps.trans h⟩
  · exact Or.inr ⟨q, vm₁, B, X₁.warmed, X', hpost, hstep₁ _ fun acts => by rw [doInvoke_state]; exact hsteps⟩
theorem vx_callVW (X : Stand p l e R s m args below meth c T locs cells slots) (hexec : p.tables.exec = Jvm.exec) {own C : String} {index : Nat} {y : MethodName} {bytes : ByteArray} {maxL : Nat} {ret : Option FieldType} {hh : List (Nat × Nat × Nat × Nat)}
    (hown : s.vm.findClass own = some m.cls) (hlink : (Cond.methodLink own index y).before args s = true) (hinst : (Cond.instanceMethod y).before args s = true) (hsel : (Cond.selects C y y).before args s = true)
    (hcode : (Cond.codeWith y bytes maxL ret hh).before args s = true) (hy : y.cls ≠ "java/lang/invoke/MethodHandle" ∧ y.cls ≠ "java/lang/invoke/VarHandle")
    {W9 : Nat} {Pre : Pt → Array Value → Prop} {Post : Pt → Array Value → Option Value → Pt → Prop} (hK : Back l R p e below s args y 3 W9 Pre Post)
    {b : Addr} {cellB : Cell} (hcell : T.heap[b]? = some cellB) (hobj : cellB.vm.isStatics = false) (hcls : s.vm.findClass C = some cellB.cls)
    {g : JFrame} (hg : g.method = m) (hsize : g.locals.size = c.maxLocals) {argsL rest : List Value} (hlen : ∀ sig, parseMethodDescriptor y.desc = some sig → argsL.length = sig.parameters.length)
    (hstack : g.stack = argsL.reverse ++ .ref b :: rest) (hW : 2 * g.monitorRoom + (rest.map fun v => v.category).sum ≤ W9) (hdg : decode c.code g.pc = .ok (.invokevirtual index, 3))
    (hpre : ∀ vm₁, s.WarmedH vm₁ → Pre ⟨T.setVm vm₁, locs, cells, slots⟩ (Value.ref b :: argsL).toArray) :
    ∃ (v : Option Value) (vm₁ : Vm) (B : Pt), s.WarmedH vm₁ ∧ Stand p l e R s m args below meth c B.U B.locs B.cells B.slots ∧ Post ⟨T.setVm vm₁, locs, cells, slots⟩ (Value.ref b :: argsL).toArray v B ∧
      ∀ target, Steps p.tables e below (B.U.setTop { g with pc := g.pc + 3, stack := v.toList ++ rest }) target → Steps p.tables e below (T.setTop g) target := by
  obtain ⟨mk, methM, hnamed, hmethM, hstM, habM⟩ := Cond.instanceMethod_spec hinst
  obtain ⟨m8, methM', cM, hn8, hmethM', -, -, -, -, -, -, hsigM⟩ := Cond.codeWith_spec hcode
  cases Option.some.inj (hn8.symm.trans hnamed)
  cases hmethM.symm.trans hmethM'
  obtain ⟨c2, r2, m2, q1, q2, q3, q4, kP, hkP, hkPi⟩ := Cond.selects_spec hsel
  cases hcls.symm.trans q1
  cases (State.methodFound?_of_named hnamed hy).symm.trans q2
  cases hnamed.symm.trans q3
  have hselP : selectMethod e.platform s.vm cellB.cls mk = .method mk := by rw [Launch.admits_selectMethod X.admits]; exact q4
  obtain ⟨vm₁, X₁, hstep₁⟩ := X.invokevirtual hexec hown hlink hnamed hmethM hstM hkP hkPi hy (a := b) (cell := cellB) hcell
    (fun z h => by rw [h] at hobj; cases hobj) hselP hmethM habM hkP hkPi (g := g) hg (argsL := argsL) (rest := rest) (hlen _ hsigM) hstack hdg
  obtain ⟨v, B, X', hpost, hsteps⟩ := hK m meth c ⟨T.setVm vm₁, locs, cells, slots⟩ { g with stack := rest } (.invokevirtual index) mk (Value.ref b :: argsL).toArray X₁ hg hsize hdg hW (X₁.named hnamed) (hpre vm₁ X₁.warmed)
  exact ⟨v, vm₁, B, X₁.warmed, X', hpost, fun target h => hstep₁ _ fun acts => by rw [doInvoke_state]; exact hsteps.trans h⟩
abbrev vx_CVW (R : Room) (s : State) (args : Array Value) (own C : String) (index : Nat) (y : MethodName) (bytes : ByteArray) (maxL : Nat) (ret : Option FieldType) (hh : List (Nat × Nat × Nat × Nat)) (ws : List Cond) (rm : Room) (mc ms n : Nat) : Prop :=
  (rm.cells = mc ∧ rm.slots = ms ∧ rm.frames + 1 ≤ R.frames ∧ 8 + (maxL + 11) + rm.locals ≤ R.locals ∧ (∀ w ∈ ws, ∀ (a' : Array Value) (U : State), s.WarmedH U.vm → w.before a' U = true) ∧ Cond.codeWith y bytes maxL ret hh ∈ ws) ∧
  (Cond.codeWith y bytes maxL ret hh).before args s = true ∧ (Cond.initialized y.cls).before args s = true ∧ (y.cls ≠ "java/lang/invoke/MethodHandle" ∧ y.cls ≠ "java/lang/invoke/VarHandle") ∧
  (∀ sig, parseMethodDescriptor y.desc = some sig → n = sig.parameters.length) ∧ (Cond.methodLink own index y).before args s = true ∧ (Cond.instanceMethod y).before args s = true ∧ (Cond.selects C y y).before args s = true
theorem vx_cwVW {own C : String} {index maxL mc ms : Nat} {y : MethodName} {bytes : ByteArray} {ret : Option FieldType} {hh : List (Nat × Nat × Nat × Nat)} {Ts ws ws' : List Cond} {rm : Room} (n : Nat) (ht : ∀ w ∈ Ts, w.before args s = true) (hT : GoodIn Ts (wsV own index C y ws)) (hw : ws = Cond.codeWith y bytes maxL ret hh :: ws') (hrc : rm.cells = mc) (hrs : rm.slots = ms)
    (hd : y.cls = C ∧ y.cls ≠ "java/lang/invoke/MethodHandle" ∧ y.cls ≠ "java/lang/invoke/VarHandle" ∧ (parseMethodDescriptor y.desc).map (fun d => d.parameters.length) = some n) (hR : rm.frames + 1 ≤ R.frames ∧ 8 + (maxL + 11) + rm.locals ≤ R.locals) :
    vx_CVW R s args own C index y bytes maxL ret hh ws rm mc ms n := by
  obtain ⟨hC, hd⟩ := hd
  subst hC
  have ok : ∀ w ∈ wsV own index y.cls y ws, w.before args s = true := fun w h => ht w (hT w h).1
  have hG : GoodIn Ts ws := fun w h => hT w (by unfold wsV; exact List.mem_append_right _ h)
  have hc : Cond.codeWith y bytes maxL ret hh ∈ ws := by rw [hw]; exact List.mem_cons_self
  refine ⟨⟨hrc, hrs, hR.1, hR.2, pay_in ht hG, hc⟩, ht _ (hG _ hc).1, ok _ (by simp [wsV]), ⟨hd.1, hd.2.1⟩, fun sig h => ?_, ok _ (by simp [wsV]), ok _ (by simp [wsV]), ok _ (by simp [wsV])⟩
  have h2 := hd.2.2
  rw [h] at h2
  exact (Option.some.inj h2).symm
theorem vx_runVW {y : MethodName} {bytes cc : ByteArray} {maxL nL mc ms n index : Nat} {ret : Option FieldType} {hh : List (Nat × Nat × Nat × Nat)} {ws : List Cond} {rm : Room} {Pc : Array Value → State → Prop} {Qc : Array Value → State → Outcome → State → Prop} {free : Addr → Prop} {Ts : List Cond} {own C : String} {b : Addr} {As rest : List Value} {g : JFrame}
    (S : CallFix p m c cc nL s args Ts own) (hM : Met l y ws rm Pc Qc mc ms free) (cw : vx_CVW R s args own C index y bytes maxL ret hh ws rm mc ms n) (hp : PreV s H C b Pc As)
    (hg : g.method = m) (hn : As.length = n) (hsize : g.locals.size = nL) (hstack : g.stack = As.reverse ++ .ref b :: rest) (hW : 2 * g.monitorRoom + (rest.map fun v => v.category).sum ≤ 8) (hdg : decode cc g.pc = .ok (.invokevirtual index, 3)) (hf : cells + mc ≤ R.cells ∧ slots + ms ≤ R.slots) :
    va_Run p l e R s m args below meth c H locs cells slots mc ms g rest (Qc (Value.ref b :: As).toArray) free := by
  obtain ⟨⟨hrc, hrs, hfr, hlo, hws, hcw⟩, hcode, hini, hy, hlen, hl, hin, hse⟩ := cw
  have hK : Back l R p e below s args y 3 8 (PreOf R mc ms Pc) (PostOf Qc mc ms free) := va_backW (hh := hh) (bytes := bytes) (maxL := maxL) (ret := ret) hM hp.1 hrc hrs hfr hlo hws hcw (fun a' U hW => word_at hW (Or.inl (by first | rfl | simp [Cond.onTables, Cond.keeps, Cond.steady])) hini)
  obtain ⟨hx, hb, hml, ho, -⟩ := S
  obtain ⟨-, ⟨cellB, hcB, hoB, hclB⟩, hPc⟩ := hp
  intro T hT X
  obtain ⟨v, vm₁, ⟨U', l2, c2, s2⟩, hW₁, X', ⟨g', mk, t, L, e1, e2, hq, h1, hL, h2, h3⟩, st⟩ := vx_callVW X hx (C := C) (hh := hh) (bytes := bytes) (maxL := maxL) (ret := ret) ho hl hin hse hcode hy hK (by rw [hT]; exact hcB) hoB hclB hg (hsize.trans hml.symm) (argsL := As) (rest := rest) (fun sig h => hn.trans (hlen sig h)) hstack hW (by rw [hb]; exact hdg)
    (fun vm₁ hW₁ => ⟨hf.1, hf.2, hPc (T.setVm vm₁) hT hW₁⟩)
  dsimp only [Pt.U, Pt.locs, Pt.cells, Pt.slots] at X' e1 e2 h1 h2 h3 st
  subst h1; subst h2; subst h3
  exact ⟨v, (T.setVm vm₁).calling g' mk (Value.ref b :: As).toArray, t, U', L, hT, X', hL, e1, e2, hq, st⟩
section
variable {y : MethodName} {bytes cc : ByteArray} {maxL nL mc ms n index : Nat} {ret : Option FieldType} {ws : List Cond} {rm : Room} {Pc : Array Value → State → Prop} {Qc : Array Value → State → Outcome → State → Prop} {XC : String → State → State → Prop} {free : Addr → Prop} {Ts : List Cond} {own C : String} {b : Addr} {As rest : List Value} {g : JFrame}
theorem vx_runVX {hh : List (Nat × Nat × Nat × Nat)} (S : CallFix p m c cc nL s args Ts own) (hM : vx_Met l y ws rm Pc Qc XC mc ms free) (cw : vx_CVW R s args own C index y bytes maxL ret hh ws rm mc ms n) (hp : PreV s H C b Pc As)
    (hg : g.method = m) (hn : As.length = n) (hsize : g.locals.size = nL) (hstack : g.stack = As.reverse ++ .ref b :: rest) (hW : 2 * g.monitorRoom + (rest.map fun v => v.category).sum ≤ 8) (hdg : decode cc g.pc = .ok (.invokevirtual index, 3)) (hf : cells + mc ≤ R.cells ∧ slots + ms ≤ R.slots) :
    vx_Run p l e R s m args below meth c H locs cells slots mc ms g rest (Qc (Value.ref b :: As).toArray) XC free := by
  obtain ⟨⟨hrc, hrs, hfr, hlo, hws, hcw⟩, hcode, hini, hy, hlen, hl, hin, hse⟩ := cw
  have hK : vx_Back l R p e below s args y 3 8 (PreOf R mc ms Pc) (PostOf Qc mc ms free) (vx_Post XC mc ms free) := vx_backW (hh := hh) (bytes := bytes) (maxL := maxL) (ret := ret) hM hp.1 hrc hrs hfr hlo hws hcw (fun a' U hW => word_at hW (Or.inl (by first | rfl | simp [Cond.onTables, Cond.keeps, Cond.steady])) hini)
  obtain ⟨hx, hb, hml, ho, -⟩ := S
  obtain ⟨-, ⟨cellB, hcB, hoB, hclB⟩, hPc⟩ := hp
  intro T hT X
  rcases vx_callVX X hx (C := C) (hh := hh) (bytes := bytes) (maxL := maxL) (ret := ret) ho hl hin hse hcode hy hK (by rw [hT]; exact hcB) hoB hclB hg (hsize.trans hml.symm) (argsL := As) (rest := rest) (fun sig h => hn.trans (hlen sig h)) hstack hW (by rw [hb]; exact hdg)
    (fun vm₁ hW₁ => ⟨hf.1, hf.2, hPc (T.setVm vm₁) hT hW₁⟩) with ⟨v, vm₁, ⟨U', l2, c2, s2⟩, hW₁, X', ⟨g', mk, t, L, e1, e2, hq, h1, hL, h2, h3⟩, st⟩ | ⟨q, vm₁, ⟨U', l2, c2, s2⟩, hW₁, X', ⟨g', mk, t, L, E, ce, e1, e2, hq, hce, hcv, hcl, h1, hL, h2, h3⟩, st⟩
  · dsimp only [Pt.U, Pt.locs, Pt.cells, Pt.slots] at X' e1 e2 h1 h2 h3 st
    subst h1; subst h2; subst h3
    exact Or.inl ⟨v, (T.setVm vm₁).calling g' mk (Value.ref b :: As).toArray, t, U', L, hT, X', hL, e1, e2, hq, st⟩
  · dsimp only [Pt.U, Pt.locs, Pt.cells, Pt.slots] at X' e1 e2 h1 h2 h3 st hcl
    subst h1; subst h2; subst h3
    exact Or.inr ⟨q, (T.setVm vm₁).calling g' mk (Value.ref b :: As).toArray, t, U', L, E, ce, hT, X', hL, e1, e2, hq, hce, hcv, vx_cls hW₁ hcl, st⟩
theorem vx_runSX {hh : List (Nat × Nat × Nat × Nat)} (S : CallFix p m c cc nL s args Ts own) (hM : vx_Met l y ws rm Pc Qc XC mc ms free) (cw : vx_CSW R s args own index y bytes maxL ret hh ws rm mc ms n) (hp : PreS s H Pc As)
    (hg : g.method = m) (hn : As.length = n) (hsize : g.locals.size = nL) (hstack : g.stack = As.reverse ++ rest) (hW : 2 * g.monitorRoom + (rest.map fun v => v.category).sum ≤ 8) (hdg : decode cc g.pc = .ok (.invokestatic index, 3)) (hf : cells + mc ≤ R.cells ∧ slots + ms ≤ R.slots) :
    vx_Run p l e R s m args below meth c H locs cells slots mc ms g rest (Qc As.toArray) XC free := by
  obtain ⟨⟨hrc, hrs, hfr, hlo, hws, hcw⟩, hcode, hini, hy, hlen, hl, hstt⟩ := cw
  have hK : vx_Back l R p e below s args y 3 8 (PreOf R mc ms Pc) (PostOf Qc mc ms free) (vx_Post XC mc ms free) := vx_backW (hh := hh) (bytes := bytes) (maxL := maxL) (ret := ret) hM hp.1 hrc hrs hfr hlo hws hcw (fun a' U hW => word_at hW (Or.inl (by first | rfl | simp [Cond.onTables, Cond.keeps, Cond.steady])) hini)
  obtain ⟨hx, hb, hml, ho, -⟩ := S
  intro T hT X
  rcases vx_callSX X hx (hh := hh) (bytes := bytes) (maxL := maxL) (ret := ret) ho hl hstt hini hcode hy hK hg (hsize.trans hml.symm) (argsL := As) (rest := rest) (fun sig h => hn.trans (hlen sig h)) hstack hW (by rw [hb]; exact hdg)
    (fun vm₁ hW₁ => ⟨hf.1, hf.2, hp.2 (T.setVm vm₁) hT hW₁⟩) with ⟨v, vm₁, ⟨U', l2, c2, s2⟩, hW₁, X', ⟨g', mk, t, L, e1, e2, hq, h1, hL, h2, h3⟩, st⟩ | ⟨q, vm₁, ⟨U', l2, c2, s2⟩, hW₁, X', ⟨g', mk, t, L, E, ce, e1, e2, hq, hce, hcv, hcl, h1, hL, h2, h3⟩, st⟩
  · dsimp only [Pt.U, Pt.locs, Pt.cells, Pt.slots] at X' e1 e2 h1 h2 h3 st
    subst h1; subst h2; subst h3
    exact Or.inl ⟨v, (T.setVm vm₁).calling g' mk As.toArray, t, U', L, hT, X', hL, e1, e2, hq, st⟩
  · dsimp only [Pt.U, Pt.locs, Pt.cells, Pt.slots] at X' e1 e2 h1 h2 h3 st hcl
    subst h1; subst h2; subst h3
    exact Or.inr ⟨q, (T.setVm vm₁).calling g' mk As.toArray, t, U', L, E, ce, hT, X', hL, e1, e2, hq, hce, hcv, vx_cls hW₁ hcl, st⟩
end
end VXH
theorem vx_ofWH {l : Launch} {y : MethodName} {ws ws' : List Cond} {rm : Room} {Pc : Array Value → State → Prop} {Qc : Array Value → State → Outcome → State → Prop} {XC : String → State → State → Prop} {mc ms : Nat} {free : Addr → Prop} {cc : ByteArray} {maxL : Nat} {ret : Option FieldType} {hh : List (Nat × Nat × Nat × Nat)}
    (hy : plainName y.cls = true) (hw : ws = Cond.codeWith y cc maxL ret hh :: ws')
    (body : ∀ p e s m args below meth c s₁, BodyLoose p l y (headSpec ws rm) cc maxL ret e s m args below meth c s₁ → c.maxLocals = maxL → Pc args s →
      W p l e (headSpec ws rm).room s m args below meth c s.heap [] 0 0 (vx_MQ below Qc XC args s mc ms free) (entryFrame m args maxL)) : vx_Met l y ws rm Pc Qc XC mc ms free := by
  refine MetFree.of_bodyS (code := cc) (maxLocals := maxL) (ret := ret) hy ?_ ?_
  · intro args s m h hn
    obtain ⟨m9, meth, c, hn9, h1, h2, h3, h4, -, h5, h6, -⟩ := Cond.codeWith_spec (atoms_spec (ws := ws) h _ (by rw [hw]; exact List.mem_cons_self))
    cases hn.symm.trans hn9
    exact ⟨meth, c, h1, h2, h3, h4, h5, h6⟩
  · intro p e s m args below meth c s₁ B hml hP _
    have hh0 : s₁.heap = s.heap := by rw [B.state]; rfl
    obtain ⟨t, a1, o, b1, b2, b3⟩ := body p e s m args below meth c s₁ B hml hP s₁ hh0 (Stand.of_body B)
    exact ⟨t, o, a1, b1, b2, b3⟩
/-! ===== END ===== -/
/-! ===== BEGIN what the machine throws by itself, no traces kept ===== -/
section VXM
set_option maxHeartbeats 1000000 in
/-- the machine throws cls with the message text, no traces kept: from its note over the frame g to 'throwing' over the same frame (follows the proofs of Stand.vmThrowsMessage, Shelf/KitTracedVmS.lean, and Stand.throwsMessageColdBareV, StandMessageColdV.lean, without the step out of the frame) -/
theorem vx_vmAt {p : Program} {l : Launch} {e : Env} {R : Room} {s : State} {m₀ : MethodId} {args : Array Value} {below : List Frame} {meth : Method} {c : Code} {W : State} {locs : List Loc} {cells slots : Nat}
    (X : Stand p l e R s m₀ args below meth c W locs cells slots) (hexec : p.tables.exec = Jvm.exec) (htr : e.platform.stackTraces = false) {cls : String} {names : List String} {text : String}
    (hcls : Bundle.fit cls = true) (hnames : ∀ n ∈ names, Bundle.fit n = true) (hsoe : (cls == "java/lang/StackOverflowError") = false) (hoom : (cls == "java/lang/OutOfMemoryError") = false)
    (h : ∀ a ∈ Bundle.messageArmAtoms cls names, a.before args s = true)
    (hlocs : ∀ x ∈ locs, ∀ cell, s.heap[x.base]? = some cell → cell.vm.isStatics = false)
    (htext : (text == notModelled) = false) (hlimit : ¬ (stringBytes (stringToUtf16 text)).size > e.platform.arrayLengthLimit) (hheap : ¬ (stringBytes (stringToUtf16 text)).size * componentBytes .byte > e.platform.maxHeapBytes)
    {g : JFrame} (hg : g.method = m₀) (hsize : g.locals.size = c.maxLocals)
    (hRframes : names.length + 4 < R.frames) (hRlocals : 2 * g.monitorRoom + (g.stack.map fun v => v.category).sum + 10240 ≤ R.locals) (hshort : 13 * names.length + 55 ≤ 10240)
    (hRcells : cells + 3 ≤ R.cells) (hRslots : slots + ((stringBytes (stringToUtf16 text)).size + 4 + 6) ≤ R.slots) (hlocks : meth.locks = false) :
    ∃ (S : State) (q : Addr) (ce : Cell), (∀ target, Steps p.tables e below ((S.setTop g).pushFrame (.throwing q)) target → Steps p.tables e below ((W.setTop g).pushFrame (.throwNew cls (some text) none)) target) ∧
      Stand p l e R s m₀ args below meth c S locs (cells + 3) (slots + ((stringBytes (stringToUtf16 text)).size + 4 + 6)) ∧ S.heap[q]? = some ce ∧ s.vm.findClass cls = some ce.cls ∧ ce.vm = .none := by
  have howns : e.platform.frameOwnsMonitors = true := by rw [X.admits.platform]
  have hfin : e.platform.finalization = false := by rw [X.admits.platform]
  have hpl : e.platform.magicAccessors = ({} : Platform).magicAccessors := by rw [X.admits.platform]
  have a : ∀ x, x ∈ Bundle.messageArmAtoms cls names → x.holds args s none s [] = true := fun x hx => h x hx
  obtain ⟨T, Z0, L, -, Y⟩ := ThrowableC.of_atoms (args := args) howns hfin hpl (fun x hx => h x (by simp [Bundle.messageArmAtoms, hx]))
  obtain ⟨Z, M, LZ, LM, hnZ⟩ := Init0T.ofS_atoms (args := args) hpl L Y (fun x hx => h x (by simp [Bundle.messageArmAtoms, hx]))
  obtain ⟨P1, Ps, hlen, L1, hL, hP1m, hlink1, hlink⟩ := Bundle.chainS (args := args) hpl hnZ names cls hcls hnames (fun x hx => h x (by simp [Bundle.messageArmAtoms, hx]))
  obtain ⟨Zs, LZs, hn4, hfitv, hfitc⟩ := StringT.of_atoms (args := args) (fun x hx => h x (by simp [Bundle.messageArmAtoms, hx]))
  have hfound : s.vm.findClass cls = some P1.m.cls := findClass_of_methodNamed hP1m
  obtain ⟨c1, kX, hc1, hk, hord, -, -, hn6⟩ := Cond.instantiable_spec (a (.instantiable cls 6) (by simp [Bundle.messageArmAtoms]))
  cases Option.some.inj (hc1.symm.trans hfound)
  have hinit := Cond.initialized_spec hfound hk (a (.initialized cls) (by simp [Bundle.messageArmAtoms]))
  have hctor : kX.findMethod "<init>" "(Ljava/lang/String;)V" = some P1.m.idx := findMethod_of_methodNamed hP1m hk
  have hsel0 : selectMethod e.platform s.vm P1.m.cls T.fill0 = .method T.fill0 := by
    obtain ⟨c2, r2, m2, q1, q2, q3, q4, -⟩ := Cond.selects_spec (a (.selects cls Bundle.tFill0 Bundle.tFill0) (by simp [Bundle.messageArmAtoms]))
    cases Option.some.inj (q1.symm.trans hfound)
    cases Option.some.inj (q2.symm.trans (State.methodFound?_of_named Y.fill0 (by decide)))
    cases Option.some.inj (q3.symm.trans Y.fill0)
    rw [Launch.admits_selectMethod X.admits]; exact q4
  have hselF : selectMethod e.platform s.vm P1.m.cls T.fill = .method T.fill := by
    obtain ⟨c2, r2, m2, q1, q2, q3, q4, -⟩ := Cond.selects_spec (a (.selects cls Bundle.tFill Bundle.tFill) (by simp [Bundle.messageArmAtoms]))
    cases Option.some.inj (q1.symm.trans hfound)
    cases Option.some.inj (q2.symm.trans (State.methodFound?_of_named Y.fill (by decide)))
    cases Option.some.inj (q3.symm.trans Y.fill)
    rw [Launch.admits_selectMethod X.admits]; exact q4
  obtain ⟨cellS0, hcS0, hiss⟩ := Y.statics
  obtain ⟨u0, hu0⟩ := Cond.staticRefV Y.unassigned L.unassignedStatic L.statics hcS0 hiss (a (.isRef (.static Bundle.tN "UNASSIGNED_STACK" Bundle.steD)) (by simp [Bundle.messageArmAtoms]))
  obtain ⟨sen, hsen⟩ := Cond.staticRefV Y.sentinel L.sentinelStatic L.statics hcS0 hiss (a (.isRef (.static Bundle.tN "SUPPRESSED_SENTINEL" Bundle.listD)) (by simp [Bundle.messageArmAtoms]))
  obtain ⟨ci198, i198, fB, hk198, hg198, ha198, hsB, -, hnB, htB, hffB⟩ := Cond.ownField (t := .object "java/lang/Object") Y.found L.cls (by decide +kernel) (a (.fieldLink Bundle.tN 198 Bundle.tN "backtrace" "Ljava/lang/Object;") (by simp [Bundle.messageArmAtoms])) (a (.lays Bundle.tN Bundle.tN "backtrace" "Ljava/lang/Object;") (by simp [Bundle.messageArmAtoms])) e.platform hpl
  obtain ⟨cellS, hcS', heS, -, hkeep⟩ := X.same.2.2.2.2.2 T.aS cellS0 hcS0
  have hcellS : W.heap[T.aS]? = some cellS := hcS'
  have hout' : ∀ i, (⟨T.aS, i⟩ : Loc) ∉ locs := fun i hmem => by
    have := hlocs _ hmem cellS0 hcS0
    rw [hiss] at this; cases this
  have hknownS : cellS.vm ≠ .unknown := by
    rw [heS]; intro hu
    rw [show cellS0.vm = .unknown from hu] at hiss
    cases hiss
  have hvU : cellS.slots[T.fUnassigned.slot]? = some u0.v := by rw [hkeep _ (hout' _)]; exact hu0
  have hvSen : cellS.slots[T.fSentinel.slot]? = some sen.v := by rw [hkeep _ (hout' _)]; exact hsen
  obtain ⟨iM, hffM⟩ := Y.msg
  obtain ⟨tyC, dC, hdC, hdnC⟩ := Cond.laysAt hfound hk Y.cause (a (.lays cls Bundle.tN "cause" "Ljava/lang/Throwable;") (by simp [Bundle.messageArmAtoms]))
  obtain ⟨tyS, dS, hdS, hdnS⟩ := Cond.laysAt hfound hk Y.stack (a (.lays cls Bundle.tN "stackTrace" Bundle.steD) (by simp [Bundle.messageArmAtoms]))
  obtain ⟨tyP, dP, hdP, hdnP⟩ := Cond.laysAt hfound hk Y.supp (a (.lays cls Bundle.tN "suppressedExceptions" Bundle.listD) (by simp [Bundle.messageArmAtoms]))
  obtain ⟨tyM, dM, hdM, hdnM⟩ := Cond.laysAt hfound hk hffM (a (.lays cls Bundle.tN "detailMessage" "Ljava/lang/String;") (by simp [Bundle.messageArmAtoms]))
  obtain ⟨tyB, dB, hdB, hdnB⟩ := Cond.laysAt hfound hk hffB (a (.lays cls Bundle.tN "backtrace" "Ljava/lang/Object;") (by simp [Bundle.messageArmAtoms]))
  have bC := Cond.laysApart hdB hdC hdnB hdnC (by rw [hnB, Y.causeName]; decide)
  have bS := Cond.laysApart hdB hdS hdnB hdnS (by rw [hnB, Y.stackName]; decide)
  have bP := Cond.laysApart hdB hdP hdnB hdnP (by rw [hnB, Y.suppName]; decide)
  have hbk : ((preparedCellV T.toThrowableT (freshCell P1.m.cls kX) (W.heap.size + 2) u0 sen).withEntry W.cur).slots[fB.slot]? = some .null := by
    have := fresh_default (c := P1.m.cls) tyB
    rw [htB] at this
    simpa [preparedCellV, Cell.setSlot, Cell.withEntry, Array.getElem?_setIfInBounds, bC, bS, bP, bC.symm, bS.symm, bP.symm, defaultValue] using this
  have tkC := Takes.of_laid (v := .ref (W.heap.size + 2)) hk hord tyC (by rw [Y.causeType]; rfl)
  have tkS := Takes.of_laid (v := u0.v) hk hord tyS (by rw [Y.stackType]; exact fits_refV_array _ u0)
  have tkP := Takes.of_laid (v := sen.v) hk hord tyP (by rw [Y.suppType]; exact fits_refV_object _ sen)
  have tkM := Takes.of_laid (v := .ref (W.heap.size + 1)) hk hord tyM (by rw [Y.msgType]; rfl)
  have hskip : SkipFacts T e.platform s (fun u => u) u0 ((preparedCellV T.toThrowableT (freshCell P1.m.cls kX) (W.heap.size + 2) u0 sen).withEntry W.cur) := ⟨{ ci198 := ci198, i198 := i198, fBack := fB }, ⟨hk198, hg198, ha198, hsB⟩, hbk, fun _ _ => rfl⟩
  have h0 : At W g.method c below := by rw [hg]; exact X.here
  obtain ⟨hbeyond, hfreeW⟩ := X.vmMayThrow hsize (.throwNew cls (some text) none) (fun f hf => by cases hf) rfl hRlocals
  have hfr' : W.frames.length + Ps.length + 4 < (e.platform.stackLimits W.me).1 := by have := X.framesAbove hRframes; omega
  have hwd' : (stackUse (.java g :: W.frames.tail)).2 + 13 * Ps.length + 55 ≤ (e.platform.stackLimits W.me).2 := by have := X.stackAbove hsize (K := 13 * Ps.length + 55) (by omega); omega
  have hslots : W.slotsUsed + (stringBytes (stringToUtf16 text)).size + Zs.kS.instanceTypes.size + kX.instanceTypes.size ≤ e.platform.maxSlots := by
    have := X.slotsAbove hRslots
    rw [hn4, hn6]
    omega
  obtain ⟨vm', hW', st⟩ := Steps.vmThrowsMessageColdByV p (s₀ := s) (S := W) (g := g) h0 hexec T L Z LZ M LM X.warmed (t := W.cur) rfl Zs LZs P1 L1 Ps hL hlink1 hlink hsoe hoom hfound hk hinit hord hctor
    (Launch.admits_hotImplicitExceptions X.admits) hbeyond hfreeW htext hlimit hheap (X.cellsAbove hRcells) hslots (hfitv _) (hfitc _)
    (Nn := fun u => u) heapOnly_id (fun _ _ => rfl) (fun _ => rfl) (fun u x y => setCell_twice _ _ _ _) (fun _ => Nat.le_refl _) (cN := ((preparedCellV T.toThrowableT (freshCell P1.m.cls kX) (W.heap.size + 2) u0 sen).withEntry W.cur))
    hsel0 hcellS hknownS hvU tkS (fun _ hu => hu) (fun _ hu => hu) rfl rfl rfl (by simp [preparedCellV, Cell.setSlot, Cell.withEntry]) hskip (fun _ _ hA hW _ hroom _ hrest => L.nativeOff p htr hA hW hroom hrest) hselF hvSen tkC tkP tkM Y.objLocals rfl hfr' hwd'
  rw [plainBareV_eq T.toThrowableT (W.heap.size + 2) u0 sen (.ref (W.heap.size + 1)) W.cur rfl rfl] at st
  obtain ⟨-, -, w3, w4, -, -, -⟩ := withThrown_facts e.platform W Zs text P1.m.cls kX
  have X3 := ((X.pushed (bytesOf Zs.cB (stringToUtf16 text))).pushed (stringAt Zs.cS Zs.kS Zs.fv Zs.fc (stringToUtf16 text) W.heap.size)).pushed (freshCell P1.m.cls kX)
  rw [← withString_eq] at X3
  have X4 := X3.noted hW'
  have ha : (W.heap.size + 2) < ((withThrown W Zs text P1.m.cls kX).setVm vm').heap.size := by show _ < (withThrown W Zs text P1.m.cls kX).heap.size; rw [w3]; omega
  have hcell : ((withThrown W Zs text P1.m.cls kX).setVm vm').heap[(W.heap.size + 2)]? = some (freshCell P1.m.cls kX) := w4
  have X5 := ((((X4.stored hcell T.fCause.slot (.ref (W.heap.size + 2))).storedAgain ha T.fStack.slot u0.v).storedAgain ha T.fSupp.slot sen.v).storedAgain ha T.fStack.slot u0.v).storedAgain ha T.fMsg.slot (.ref (W.heap.size + 1))
  obtain ⟨g₁, hfrM⟩ := X5.frames_eq
  have hU : ((((withThrown W Zs text P1.m.cls kX).setVm vm').setCell (W.heap.size + 2) (plainBareV T.toThrowableT (freshCell P1.m.cls kX) (W.heap.size + 2) u0 sen (.ref (W.heap.size + 1)))).setTop g).pushFrame (.throwing (W.heap.size + 2)) = (((withThrown W Zs text P1.m.cls kX).setVm vm').setCell (W.heap.size + 2) (plainBareV T.toThrowableT (freshCell P1.m.cls kX) (W.heap.size + 2) u0 sen (.ref (W.heap.size + 1)))).setFrames (.throwing (W.heap.size + 2) :: .java g :: below) := by
    rw [State.pushFrame, State.frames_setTop _ hfrM, State.setTop_of_frames _ hfrM, State.setFrames_setFrames]
  have b1 : (bytesOf Zs.cB (stringToUtf16 text)).slots.size = (stringBytes (stringToUtf16 text)).size := by
    rw [(Cell.writeAll_facts _ _).2.2]; simp [bytes0]
  have b2 : (stringAt Zs.cS Zs.kS Zs.fv Zs.fc (stringToUtf16 text) W.heap.size).slots.size = 4 := by simp [string0, Cell.setSlot, hn4]
  have b3 : (freshCell P1.m.cls kX).slots.size = 6 := by simp [hn6]
  rw [b1, b2, b3] at X5
  have e9 : slots + (stringBytes (stringToUtf16 text)).size + 4 + 6 = slots + ((stringBytes (stringToUtf16 text)).size + 4 + 6) := by omega
  rw [e9] at X5
  simp only [List.append_assoc, List.cons_append, List.nil_append] at X5
  refine ⟨((withThrown W Zs text P1.m.cls kX).setVm vm').setCell (W.heap.size + 2) (plainBareV T.toThrowableT (freshCell P1.m.cls kX) (W.heap.size + 2) u0 sen (.ref (W.heap.size + 1))), W.heap.size + 2, _, fun target ht => st _ (by rw [X.tail, ← hU]; exact ht),
    X5.forget (fun y hy => ?_), heapAt_setCell_self _ ha, hfound, rfl⟩
  simp only [List.mem_cons, List.not_mem_nil, or_false] at hy
  have hge : s.heap.size ≤ W.heap.size := X.same.2.1
  rcases hy with rfl | rfl | rfl | rfl | rfl <;> exact Nat.le_trans hge (Nat.le_add_right _ 2)
set_option maxHeartbeats 1000000 in
/-- the machine throws NullPointerException, no traces kept: from its note over the frame g to 'throwing' over the same frame (follows the proof of Stand.vmThrowsNpe, Shelf42/KT2.lean; throwsNpeColdBareVAt, Shelf42/NT91.lean, called) -/
theorem vx_npeAt {p : Program} {l : Launch} {e : Env} {R : Room} {s : State} {m₀ : MethodId} {args : Array Value} {below : List Frame} {meth : Method} {c : Code} {W : State} {locs : List Loc} {cells slots : Nat}
    (X : Stand p l e R s m₀ args below meth c W locs cells slots) (hexec : p.tables.exec = Jvm.exec) (htr : e.platform.stackTraces = false) {n : Nat}
    (h : ∀ a ∈ Bundle.npeArmAtoms n, a.before args s = true)
    (hlocs : ∀ x ∈ locs, ∀ cell, s.heap[x.base]? = some cell → cell.vm.isStatics = false)
    {g : JFrame} (hg : g.method = m₀) (hsize : g.locals.size = c.maxLocals)
    (hRframes : 7 < R.frames) (hRlocals : 2 * g.monitorRoom + (g.stack.map fun v => v.category).sum + 10240 ≤ R.locals)
    (hRcells : cells + 1 ≤ R.cells) (hRslots : slots + n ≤ R.slots) (hlocks : meth.locks = false) :
    ∃ (S : State) (q : Addr) (ce : Cell), (∀ target, Steps p.tables e below ((S.setTop g).pushFrame (.throwing q)) target → Steps p.tables e below ((W.setTop g).pushFrame (.throwNew "java/lang/NullPointerException" none none)) target) ∧
      Stand p l e R s m₀ args below meth c S locs (cells + 1) (slots + n) ∧ S.heap[q]? = some ce ∧ s.vm.findClass "java/lang/NullPointerException" = some ce.cls ∧ ce.vm = .none := by
  have howns : e.platform.frameOwnsMonitors = true := by rw [X.admits.platform]
  have hfin : e.platform.finalization = false := by rw [X.admits.platform]
  have hpl : e.platform.magicAccessors = ({} : Platform).magicAccessors := by rw [X.admits.platform]
  have hpl2 : e.platform.arrayCloneIsPublic = true := by rw [X.admits.platform]
  have a' : ∀ x, x ∈ Bundle.npeArmAtoms n → x.holds args s none s [] = true := fun x hx => h x hx
  obtain ⟨T, Z, L, LZ, Y⟩ := ThrowableC.of_atoms (args := args) howns hfin hpl (fun x hx => h x (by simp [Bundle.npeArmAtoms, hx]))
  obtain ⟨N, LN, hcN, hnNF, hordN, hffS⟩ := NpeC.of_atoms (args := args) hpl hpl2 L Y (fun x hx => h x (by simp [Bundle.npeArmAtoms, hx]))
  obtain ⟨P1, L1, hP1m, hP1s⟩ := PassC.of_atoms (args := args) (s := s) hpl (X := Bundle.nN) (Y := Bundle.rN) (by decide) (by decide) LibCode.NullPointerException.Init0.at_0 LibCode.NullPointerException.Init0.at_1 LibCode.NullPointerException.Init0.at_4 (fun x hx => h x (by simp [Bundle.npeArmAtoms, hx]))
  obtain ⟨PR, LR, hPRm, hPRs⟩ := PassC.of_atoms (args := args) (s := s) hpl (X := Bundle.rN) (Y := Bundle.eN) (by decide) (by decide) LibCode.RuntimeException.Init0.at_0 LibCode.RuntimeException.Init0.at_1 LibCode.RuntimeException.Init0.at_4 (fun x hx => h x (by simp [Bundle.npeArmAtoms, hx]))
  obtain ⟨PE, LEx, hPEm, hPEs⟩ := PassC.of_atoms (args := args) (s := s) hpl (X := Bundle.eN) (Y := Bundle.tN) (by decide) (by decide) LibCode.Exception.Init0.at_0 LibCode.Exception.Init0.at_1 LibCode.Exception.Init0.at_4 (fun x hx => h x (by simp [Bundle.npeArmAtoms, hx]))
  have hfound : s.vm.findClass Bundle.nN = some P1.m.cls := findClass_of_methodNamed hP1m
  have ecls : N.cN = P1.m.cls := Option.some.inj (hcN.symm.trans hfound)
  have hk : s.vm.classes[P1.m.cls]? = some N.kN := by rw [← ecls]; exact LN.cls
  have hinit := Cond.initialized_spec hfound hk (a' (.initialized Bundle.nN) (by simp [Bundle.npeArmAtoms]))
  have hctor : N.kN.findMethod "<init>" "()V" = some P1.m.idx := findMethod_of_methodNamed hP1m hk
  obtain ⟨c1, k1, hc1, hk1, -, -, -, hn⟩ := Cond.instantiable_spec (a' (.instantiable Bundle.nN n) (by simp [Bundle.npeArmAtoms]))
  cases Option.some.inj (hc1.symm.trans hfound)
  cases Option.some.inj (hk1.symm.trans hk)
  have hfsz : (freshCell P1.m.cls N.kN).slots.size = n := by simp [hn]
  have hlink1 : P1.sup = PR.m := Option.some.inj (hP1s.symm.trans hPRm)
  have hlinkR : PR.sup = PE.m := Option.some.inj (hPRs.symm.trans hPEm)
  have hlinkE : PE.sup = Z.m T.toThrowableT := Option.some.inj (hPEs.symm.trans Y.init0)
  have hLs : ∀ P, P ∈ [PR, PE] → P.Links0 e.platform s := fun P hP => by
    simp only [List.mem_cons, List.not_mem_nil, or_false] at hP
    rcases hP with rfl | rfl
    · exact LR
    · exact LEx
  have hsel0 : selectMethod e.platform s.vm P1.m.cls T.fill0 = .method T.fill0 := by
    obtain ⟨c2, r2, m2, q1, q2, q3, q4, -⟩ := Cond.selects_spec (a' (.selects Bundle.nN Bundle.tFill0 Bundle.tFill0) (by simp [Bundle.npeArmAtoms]))
    cases Option.some.inj (q1.symm.trans hfound)
    cases Option.some.inj (q2.symm.trans (State.methodFound?_of_named Y.fill0 (by decide)))
    cases Option.some.inj (q3.symm.trans Y.fill0)
    rw [Launch.admits_selectMethod X.admits]; exact q4
  have hselF : selectMethod e.platform s.vm P1.m.cls T.fill = .method N.fill := by
    obtain ⟨c2, r2, m2, q1, q2, q3, q4, -⟩ := Cond.selects_spec (a' (.selects Bundle.nN Bundle.tFill Bundle.nFill) (by simp [Bundle.npeArmAtoms]))
    cases Option.some.inj (q1.symm.trans hfound)
    cases Option.some.inj (q2.symm.trans (State.methodFound?_of_named Y.fill (by decide)))
    cases Option.some.inj (q3.symm.trans hnNF)
    rw [Launch.admits_selectMethod X.admits]; exact q4
  obtain ⟨cellS0, hcS0, hiss⟩ := Y.statics
  obtain ⟨u0, hu0⟩ := Cond.staticRefV Y.unassigned L.unassignedStatic L.statics hcS0 hiss (a' (.isRef (.static Bundle.tN "UNASSIGNED_STACK" Bundle.steD)) (by simp [Bundle.npeArmAtoms]))
  obtain ⟨sen, hsen⟩ := Cond.staticRefV Y.sentinel L.sentinelStatic L.statics hcS0 hiss (a' (.isRef (.static Bundle.tN "SUPPRESSED_SENTINEL" Bundle.listD)) (by simp [Bundle.npeArmAtoms]))
  obtain ⟨ci198, i198, fB, hk198, hg198, ha198, hsB, -, hnB, htB, hffB⟩ := Cond.ownField (t := .object "java/lang/Object") Y.found L.cls (by decide +kernel) (a' (.fieldLink Bundle.tN 198 Bundle.tN "backtrace" Bundle.objD) (by simp [Bundle.npeArmAtoms])) (a' (.lays Bundle.tN Bundle.tN "backtrace" Bundle.objD) (by simp [Bundle.npeArmAtoms])) e.platform hpl
  obtain ⟨cellS, hcS', heS, -, hkeep⟩ := X.same.2.2.2.2.2 T.aS cellS0 hcS0
  have hcellS : W.heap[T.aS]? = some cellS := hcS'
  have hout' : ∀ i, (⟨T.aS, i⟩ : Loc) ∉ locs := fun i hmem => by
    have := hlocs _ hmem cellS0 hcS0
    rw [hiss] at this; cases this
  have hknownS : cellS.vm ≠ .unknown := by
    rw [heS]; intro hu
    rw [show cellS0.vm = .unknown from hu] at hiss
    cases hiss
  have hvU : cellS.slots[T.fUnassigned.slot]? = some u0.v := by rw [hkeep _ (hout' _)]; exact hu0
  have hvSen : cellS.slots[T.fSentinel.slot]? = some sen.v := by rw [hkeep _ (hout' _)]; exact hsen
  obtain ⟨tyC, dC, hdC, hdnC⟩ := Cond.laysAt hfound hk Y.cause (a' (.lays Bundle.nN Bundle.tN "cause" "Ljava/lang/Throwable;") (by simp [Bundle.npeArmAtoms]))
  obtain ⟨tyS, dS, hdS, hdnS⟩ := Cond.laysAt hfound hk Y.stack (a' (.lays Bundle.nN Bundle.tN "stackTrace" Bundle.steD) (by simp [Bundle.npeArmAtoms]))
  obtain ⟨tyP, dP, hdP, hdnP⟩ := Cond.laysAt hfound hk Y.supp (a' (.lays Bundle.nN Bundle.tN "suppressedExceptions" Bundle.listD) (by simp [Bundle.npeArmAtoms]))
  obtain ⟨tyX, dX, hdX, hdnX⟩ := Cond.laysAt hfound hk hffS (a' (.lays Bundle.nN Bundle.nN "extendedMessageState" "I") (by simp [Bundle.npeArmAtoms, Bundle.npeAtoms]))
  obtain ⟨hnX, htX⟩ := State.fieldFound?_type hffS (t := .int) (by decide +kernel)
  have xC := Cond.laysApart hdC hdX hdnC hdnX (by rw [hnX, Y.causeName]; decide)
  have xS := Cond.laysApart hdS hdX hdnS hdnX (by rw [hnX, Y.stackName]; decide)
  have xP := Cond.laysApart hdP hdX hdnP hdnX (by rw [hnX, Y.suppName]; decide)
  have hv0 : (freshCell P1.m.cls N.kN).slots[N.fState.slot]? = some (.int 0) := by
    have := fresh_default (c := P1.m.cls) tyX
    rw [htX] at this; exact this
  obtain ⟨tyB, dB, hdB, hdnB⟩ := Cond.laysAt hfound hk hffB (a' (.lays Bundle.nN Bundle.tN "backtrace" Bundle.objD) (by simp [Bundle.npeArmAtoms]))
  have bC := Cond.laysApart hdB hdC hdnB hdnC (by rw [hnB, Y.causeName]; decide)
  have bS := Cond.laysApart hdB hdS hdnB hdnS (by rw [hnB, Y.stackName]; decide)
  have bP := Cond.laysApart hdB hdP hdnB hdnP (by rw [hnB, Y.suppName]; decide)
  have bX := Cond.laysApart hdB hdX hdnB hdnX (by rw [hnB, hnX]; decide)
  have hbk : ((npeCell N.toNpeT (preparedCellV T.toThrowableT (freshCell P1.m.cls N.kN) W.heap.size u0 sen) W.cur).withEntry W.cur).slots[fB.slot]? = some .null := by
    have := fresh_default (c := P1.m.cls) tyB
    rw [htB] at this
    simpa [npeCell, preparedCellV, Cell.setSlot, Cell.withEntry, Array.getElem?_setIfInBounds, bC, bS, bP, bX, bC.symm, bS.symm, bP.symm, bX.symm, defaultValue] using this
  have tkC := Takes.of_laid (v := .ref W.heap.size) hk hordN tyC (by rw [Y.causeType]; rfl)
  have tkS := Takes.of_laid (v := u0.v) hk hordN tyS (by rw [Y.stackType]; exact fits_refV_array _ u0)
  have tkP := Takes.of_laid (v := sen.v) hk hordN tyP (by rw [Y.suppType]; exact fits_refV_object _ sen)
  have tkX := Takes.of_laid (v := .int 1) hk hordN tyX (by rw [htX]; rfl)
  have hskip : SkipFacts T e.platform s (fun u => u) u0 ((npeCell N.toNpeT (preparedCellV T.toThrowableT (freshCell P1.m.cls N.kN) W.heap.size u0 sen) W.cur).withEntry W.cur) := ⟨{ ci198 := ci198, i198 := i198, fBack := fB }, ⟨hk198, hg198, ha198, hsB⟩, hbk, fun _ _ => rfl⟩
  obtain ⟨vm', X3, st, -⟩ := X.throwsNpeColdBareVAt hexec hg hsize T L Z LZ N LN P1 L1 [PR, PE] hLs hlink1 ⟨hlinkR, hlinkE, trivial⟩ hfound hk hinit hordN hctor hsel0 hselF hcellS hknownS hvU hvSen
    hv0 xC xS xP tkC tkS tkP tkX Y.objLocals hskip (fun _ _ hA hW _ hroom _ hrest => L.nativeOff p htr hA hW hroom hrest) (by simpa using hRframes) hRlocals (by simp) hRcells (by rw [hn]; exact hRslots)
  have hlt : W.heap.size < ((W.pushCell (freshCell P1.m.cls N.kN)).setVm vm').heap.size := by
    show W.heap.size < (W.pushCell (freshCell P1.m.cls N.kN)).heap.size
    rw [State.heap_size_pushCell]; omega
  rw [hfsz] at X3
  obtain ⟨g₁, hfrM⟩ := X3.frames_eq
  have hU : ((((W.pushCell (freshCell P1.m.cls N.kN)).setVm vm').setCell W.heap.size (npeBareV T.toThrowableT N.toNpeT (freshCell P1.m.cls N.kN) W.heap.size u0 sen)).setTop g).pushFrame (.throwing W.heap.size) = (((W.pushCell (freshCell P1.m.cls N.kN)).setVm vm').setCell W.heap.size (npeBareV T.toThrowableT N.toNpeT (freshCell P1.m.cls N.kN) W.heap.size u0 sen)).setFrames (.throwing W.heap.size :: .java g :: below) := by
    rw [State.pushFrame, State.frames_setTop _ hfrM, State.setTop_of_frames _ hfrM, State.setFrames_setFrames]
  refine ⟨_, W.heap.size, _, fun target ht => st.trans (by rw [← hU]; exact ht), X3.forget (fun y hy => ?_), heapAt_setCell_self _ hlt, hfound, rfl⟩
  simp only [List.mem_cons, List.not_mem_nil, or_false] at hy
  have hge : s.heap.size ≤ W.heap.size := X.same.2.1
  rcases hy with rfl | rfl | rfl | rfl | rfl <;> exact hge
/-- the words of a machine's NullPointerException, but the four that speak of the heap -/
def vx_atN (n : Nat) : List Cond := (Bundle.npeArmAtoms n).filter vx_no
/-- the words of a machine's throw with a message, but the four that speak of the heap -/
def vx_atM (X : String) (names : List String) : List Cond := (Bundle.messageArmAtoms X names).filter vx_no
section
variable {p : Program} {l : Launch} {e : Env} {R : Room} {s : State} {m : MethodId} {args : Array Value} {below : List Frame} {meth : Method} {c : Code} {H : Heap} {locs : List Loc} {cells slots : Nat}
/-- a frame seen from a rebased start, seen from the first start again -/
theorem vx_back9 {T S : State} {R' : Room} {k n : Nat} (X : Stand p l e R s m args below meth c T locs cells slots) (Y : Stand p l e R' ((T.setVm s.vm).setFrames (.invoking m args :: below)) m args below meth c T [] 0 0) (Z : Stand p l e R' ((T.setVm s.vm).setFrames (.invoking m args :: below)) m args below meth c S [] k n) :
    Stand p l e R s m args below meth c S locs (cells + k) (slots + n) := by
  have hW0 : s.WarmedH ((T.setVm s.vm).setFrames (.invoking m args :: below)).vm := State.WarmedH.refl s
  refine { admits := X.admits, cas := X.cas, clock := X.clock, frames := X.frames, room := X.room, hears := X.hears, method := X.method, code := X.code, here := Z.here, tail := Z.tail, warmed := State.WarmedH.trans hW0 Z.warmed, limits := Z.limits.trans (Y.limits.symm.trans X.limits), bytes := Z.bytes.trans (Y.bytes.symm.trans X.bytes), same := ?_ }
  obtain ⟨e1, e2⟩ := Z.same
  rw [State.setFrames_setFrames] at e1
  have h2 : (T.setVm s.vm).sameButNew (S.setVm s.vm) [] k n := ⟨e1, e2⟩
  have h3 := X.same.trans h2
  rw [List.append_nil] at h3
  exact h3
/-- from the machine's note that E is thrown here with this text -/
def vx_Note (p : Program) (l : Launch) (e : Env) (R : Room) (s : State) (m : MethodId) (args : Array Value) (below : List Frame) (meth : Method) (c : Code) (H : Heap) (locs : List Loc) (cells slots : Nat) (Q : State → Prop) (g : JFrame) (E text : String) : Prop :=
  ∀ T : State, T.heap = H → Stand p l e R s m args below meth c T locs cells slots → ∃ t, Steps p.tables e below ((T.setTop g).pushFrame (.throwNew E (some text) none)) t ∧ Q t
theorem vx_vm {pc : Nat} {ls : Array Slot} {rest : List Value} {Q : State → Prop} (hexec : p.tables.exec = Jvm.exec) (hl : l.stackTraces = false) {cls text : String} {names : List String} {nb : Nat} {A : Nat → Prop}
    (hcls : Bundle.fit cls = true) (hnames : ∀ n ∈ names, Bundle.fit n = true) (hsoe : (cls == "java/lang/StackOverflowError") = false) (hoom : (cls == "java/lang/OutOfMemoryError") = false)
    (hat : ∀ w ∈ vx_atM cls names, w.before args s = true) (hgood : ∀ w ∈ vx_atM cls names, vx_ot w = true)
    (hU : vx_Zq Bundle.tN "UNASSIGNED_STACK" Bundle.steD A s s.heap) (hN : vx_Zq Bundle.tN "SUPPRESSED_SENTINEL" Bundle.listD A s s.heap) (hS : va_S A s.heap H locs) (hsize : ls.size = c.maxLocals)
    (htext : (text == notModelled) = false) (hnb : (stringBytes (stringToUtf16 text)).size ≤ nb) (hnb1 : nb ≤ 1000)
    (hRframes : names.length + 4 < R.frames) (hRlocals : (rest.map fun v => v.category).sum + 10240 ≤ R.locals) (hshort : 13 * names.length + 55 ≤ 10240) (hRcells : cells + 3 ≤ R.cells) (hRslots : slots + (nb + 10) ≤ R.slots) (hlocks : meth.locks = false)
    (k : ∀ (H1 : Heap) (q9 : Addr) (ce : Cell), H.size ≤ H1.size → (∀ q : Nat, q < H.size → H1[q]? = H[q]?) → va_S A s.heap H1 locs → H1[q9]? = some ce → ce.vm = .none → s.vm.findClass cls = some ce.cls → vx_W p l e R s m args below meth c H1 locs (cells + 3) (slots + (nb + 10)) Q (F0 m pc ls rest) q9) :
    vx_Note p l e R s m args below meth c H locs cells slots Q (F0 m pc ls rest) cls text := by
  intro T hT X
  have htr : e.platform.stackTraces = false := (show e.platform.stackTraces = l.stackTraces by rw [X.admits.platform]).trans hl
  have Y := vx_rebase X (R' := { frames := R.frames, locals := R.locals, cells := 3, slots := nb + 10 }) (Nat.le_refl _) (Nat.le_refl _) hRcells hRslots
  have hhp : ((T.setVm s.vm).setFrames (.invoking m args :: below)).heap = H := hT
  have hW0 : s.WarmedH ((T.setVm s.vm).setFrames (.invoking m args :: below)).vm := State.WarmedH.refl s
  have hat' : ∀ w ∈ vx_atM cls names, w.before args ((T.setVm s.vm).setFrames (.invoking m args :: below)) = true := fun w hw => vx_ot_at hW0 rfl (hgood w hw) (hat w hw)
  have hU' : vx_Zq Bundle.tN "UNASSIGNED_STACK" Bundle.steD A ((T.setVm s.vm).setFrames (.invoking m args :: below)) ((T.setVm s.vm).setFrames (.invoking m args :: below)).heap := by rw [hhp]; exact vx_Zq.moved hW0.alike (hU.kept hS.2.1)
  have hN' : vx_Zq Bundle.tN "SUPPRESSED_SENTINEL" Bundle.listD A ((T.setVm s.vm).setFrames (.invoking m args :: below)) ((T.setVm s.vm).setFrames (.invoking m args :: below)).heap := by rw [hhp]; exact vx_Zq.moved hW0.alike (hN.kept hS.2.1)
  obtain ⟨S, q, ce, st, Z, hce, hcl', hv⟩ := vx_vmAt Y hexec htr (cls := cls) (names := names) (text := text) hcls hnames hsoe hoom (vx_own hat' (vx_isRefq hU'.1) (vx_isRefq hN'.1) hU'.2.word hN'.2.word) (fun x hx => nomatch hx) htext
    (by rw [Launch.admits_arrayLengthLimit X.admits]; omega) (by rw [Launch.admits_maxHeapBytes X.admits]; simp only [componentBytes]; omega)
    (g := F0 m pc ls rest) rfl hsize hRframes (by show 2 * 0 + (rest.map fun v => v.category).sum + 10240 ≤ R.locals; omega) hshort (by show 0 + 3 ≤ 3; omega) (by show 0 + (_ + 4 + 6) ≤ nb + 10; omega) hlocks
  obtain ⟨f1, f2⟩ := vx_frame Z.same
  have f1' : H.size ≤ S.heap.size := by rw [← hT]; exact f1
  have f2' : ∀ q : Nat, q < H.size → S.heap[q]? = H[q]? := fun q hq => by
    rw [← hT]
    exact f2 q (by rw [← hT] at hq; exact hq) (fun z hz => nomatch hz)
  have X5 := vx_back9 X Y Z
  have X6 : Stand p l e R s m args below meth c S locs (cells + 3) (slots + (nb + 10)) := { X5 with same := X5.same.mono (by omega) (by omega) }
  obtain ⟨t, a1, b1⟩ := k S.heap q ce f1' f2' ⟨Nat.le_trans hS.1 f1', fun q h1 h2 => (f2' q (Nat.lt_of_lt_of_le h1 hS.1)).trans (hS.2.1 q h1 h2), hS.2.2⟩ hce hv hcl' S rfl X6
  exact ⟨t, st t a1, b1⟩
/-- from the machine's note that NullPointerException is thrown here -/
def vx_NoteN (p : Program) (l : Launch) (e : Env) (R : Room) (s : State) (m : MethodId) (args : Array Value) (below : List Frame) (meth : Method) (c : Code) (H : Heap) (locs : List Loc) (cells slots : Nat) (Q : State → Prop) (g : JFrame) : Prop :=
  ∀ T : State, T.heap = H → Stand p l e R s m args below meth c T locs cells slots → ∃ t, Steps p.tables e below ((T.setTop g).pushFrame (.throwNew "java/lang/NullPointerException" none none)) t ∧ Q t
theorem vx_npe {pc : Nat} {ls : Array Slot} {rest : List Value} {Q : State → Prop} (hexec : p.tables.exec = Jvm.exec) (hl : l.stackTraces = false) {nb : Nat} {A : Nat → Prop}
    (hat : ∀ w ∈ vx_atN nb, w.before args s = true) (hgood : ∀ w ∈ vx_atN nb, vx_ot w = true)
    (hU : vx_Zq Bundle.tN "UNASSIGNED_STACK" Bundle.steD A s s.heap) (hN : vx_Zq Bundle.tN "SUPPRESSED_SENTINEL" Bundle.listD A s s.heap) (hS : va_S A s.heap H locs) (hsize : ls.size = c.maxLocals)
    (hRframes : 7 < R.frames) (hRlocals : (rest.map fun v => v.category).sum + 10240 ≤ R.locals) (hRcells : cells + 1 ≤ R.cells) (hRslots : slots + nb ≤ R.slots) (hlocks : meth.locks = false)
    (k : ∀ (H1 : Heap) (q9 : Addr) (ce : Cell), H.size ≤ H1.size → (∀ q : Nat, q < H.size → H1[q]? = H[q]?) → va_S A s.heap H1 locs → H1[q9]? = some ce → ce.vm = .none → s.vm.findClass "java/lang/NullPointerException" = some ce.cls → vx_W p l e R s m args below meth c H1 locs (cells + 1) (slots + nb) Q (F0 m pc ls rest) q9) :
    vx_NoteN p l e R s m args below meth c H locs cells slots Q (F0 m pc ls rest) := by
  intro T hT X
  have htr : e.platform.stackTraces = false := (show e.platform.stackTraces = l.stackTraces by rw [X.admits.platform]).trans hl
  have Y := vx_rebase X (R' := { frames := R.frames, locals := R.locals, cells := 1, slots := nb }) (Nat.le_refl _) (Nat.le_refl _) hRcells hRslots
  have hhp : ((T.setVm s.vm).setFrames (.invoking m args :: below)).heap = H := hT
  have hW0 : s.WarmedH ((T.setVm s.vm).setFrames (.invoking m args :: below)).vm := State.WarmedH.refl s
  have hat' : ∀ w ∈ vx_atN nb, w.before args ((T.setVm s.vm).setFrames (.invoking m args :: below)) = true := fun w hw => vx_ot_at hW0 rfl (hgood w hw) (hat w hw)
  have hU' : vx_Zq Bundle.tN "UNASSIGNED_STACK" Bundle.steD A ((T.setVm s.vm).setFrames (.invoking m args :: below)) ((T.setVm s.vm).setFrames (.invoking m args :: below)).heap := by rw [hhp]; exact vx_Zq.moved hW0.alike (hU.kept hS.2.1)
  have hN' : vx_Zq Bundle.tN "SUPPRESSED_SENTINEL" Bundle.listD A ((T.setVm s.vm).setFrames (.invoking m args :: below)) ((T.setVm s.vm).setFrames (.invoking m args :: below)).heap := by rw [hhp]; exact vx_Zq.moved hW0.alike (hN.kept hS.2.1)
  obtain ⟨S, q, ce, st, Z, hce, hcl', hv⟩ := vx_npeAt Y hexec htr (n := nb) (vx_own hat' (vx_isRefq hU'.1) (vx_isRefq hN'.1) hU'.2.word hN'.2.word) (fun x hx => nomatch hx)
    (g := F0 m pc ls rest) rfl hsize hRframes (by show 2 * 0 + (rest.map fun v => v.category).sum + 10240 ≤ R.locals; omega) (by show 0 + 1 ≤ 1; omega) (by show 0 + nb ≤ nb; omega) hlocks
  obtain ⟨f1, f2⟩ := vx_frame Z.same
  have f1' : H.size ≤ S.heap.size := by rw [← hT]; exact f1
  have f2' : ∀ q : Nat, q < H.size → S.heap[q]? = H[q]? := fun q hq => by
    rw [← hT]
    exact f2 q (by rw [← hT] at hq; exact hq) (fun z hz => nomatch hz)
  have X5 := vx_back9 X Y Z
  have X6 : Stand p l e R s m args below meth c S locs (cells + 1) (slots + nb) := { X5 with same := X5.same.mono (by omega) (by omega) }
  obtain ⟨t, a1, b1⟩ := k S.heap q ce f1' f2' ⟨Nat.le_trans hS.1 f1', fun q h1 h2 => (f2' q (Nat.lt_of_lt_of_le h1 hS.1)).trans (hS.2.1 q h1 h2), hS.2.2⟩ hce hv hcl' S rfl X6
  exact ⟨t, st t a1, b1⟩
variable {Q : State → Prop} {cc : ByteArray} {pc : Nat} {ls : Array Slot} {rest : List Value}
theorem vx_idivZ (hexec : p.tables.exec = Jvm.exec) (hb : c.code = cc) {a b : Int32} (h0 : b = 0) (d : decode cc pc = .ok (.idiv, 1)) (k : vx_Note p l e R s m args below meth c H locs cells slots Q (F0 m pc ls rest) "java/lang/ArithmeticException" "/ by zero") :
    W p l e R s m args below meth c H locs cells slots Q (F0 m pc ls (.int b :: .int a :: rest)) := by
  intro T hT X
  obtain ⟨t, st, q⟩ := k T hT X
  exact ⟨t, X.idivZero hexec (g := F0 m pc ls (.int b :: .int a :: rest)) rfl (a := a) (rest := rest) (by rw [h0]) (by rw [hb]; exact d) t st, q⟩
theorem vx_iremZ (hexec : p.tables.exec = Jvm.exec) (hb : c.code = cc) {a b : Int32} (h0 : b = 0) (d : decode cc pc = .ok (.irem, 1)) (k : vx_Note p l e R s m args below meth c H locs cells slots Q (F0 m pc ls rest) "java/lang/ArithmeticException" "/ by zero") :
    W p l e R s m args below meth c H locs cells slots Q (F0 m pc ls (.int b :: .int a :: rest)) := by
  intro T hT X
  obtain ⟨t, st, q⟩ := k T hT X
  exact ⟨t, X.iremZero hexec (g := F0 m pc ls (.int b :: .int a :: rest)) rfl (a := a) (rest := rest) (by rw [h0]) (by rw [hb]; exact d) t st, q⟩
theorem vx_ldivZ (hexec : p.tables.exec = Jvm.exec) (hb : c.code = cc) {a b : Int64} (h0 : b = 0) (d : decode cc pc = .ok (.ldiv, 1)) (k : vx_Note p l e R s m args below meth c H locs cells slots Q (F0 m pc ls rest) "java/lang/ArithmeticException" "/ by zero") :
    W p l e R s m args below meth c H locs cells slots Q (F0 m pc ls (.long b :: .long a :: rest)) := by
  intro T hT X
  obtain ⟨t, st, q⟩ := k T hT X
  exact ⟨t, X.ldivZero hexec (g := F0 m pc ls (.long b :: .long a :: rest)) rfl (a := a) (rest := rest) (by rw [h0]) (by rw [hb]; exact d) t st, q⟩
theorem vx_lremZ (hexec : p.tables.exec = Jvm.exec) (hb : c.code = cc) {a b : Int64} (h0 : b = 0) (d : decode cc pc = .ok (.lrem, 1)) (k : vx_Note p l e R s m args below meth c H locs cells slots Q (F0 m pc ls rest) "java/lang/ArithmeticException" "/ by zero") :
    W p l e R s m args below meth c H locs cells slots Q (F0 m pc ls (.long b :: .long a :: rest)) := by
  intro T hT X
  obtain ⟨t, st, q⟩ := k T hT X
  exact ⟨t, X.lremZero hexec (g := F0 m pc ls (.long b :: .long a :: rest)) rfl (a := a) (rest := rest) (by rw [h0]) (by rw [hb]; exact d) t st, q⟩
theorem vx_ialdZ {D : va_G} {cl : List vw_C} {ws : va_W} {tys : List (ClassId × FieldType)} {a : Nat} (hexec : p.tables.exec = Jvm.exec) (hb : c.code = cc) (hK : va_K D cl tys s) (hP : va_P D cl ws H) (q0 t0 : Nat) {cA : ClassId} {n : Nat} {f : Nat → Int32} (ha : ws[q0]? = some (a, .inl (cA, n, .inl f))) (ht : tys[t0]? = some (cA, .int)) {i : Int32} (hout : ¬ vp_in i n) (hdg : decode cc pc = .ok (.iaload, 1))
    (k : ∀ tx : String, tx = (toString "Index " ++ toString i ++ toString " out of bounds for length " ++ toString n : String) → vx_Note p l e R s m args below meth c H locs cells slots Q (F0 m pc ls rest) "java/lang/ArrayIndexOutOfBoundsException" tx) : W p l e R s m args below meth c H locs cells slots Q (F0 m pc ls (.int i :: .ref a :: rest)) := by
  intro T hT X
  obtain ⟨t, st, q⟩ := k _ rfl T hT X
  refine ⟨t, ?_, q⟩
  have h1 := X.ialoadOut hexec (by rw [hT]; exact hP q0 _ ha) ((hK.2 t0 _ ht).1 n (fun j => .int (f j))) (j := i) (by show (i < 0 ∨ (arrV _ _ _).slots.size ≤ _); rw [arrV_size]; exact Classical.byContradiction hout) (g := F0 m pc ls (.int i :: .ref a :: rest)) rfl (rest := rest) rfl (by rw [hb]; exact hdg) t
  simp only [arrV_size] at h1
  exact h1 st
theorem vx_iastZ {D : va_G} {cl : List vw_C} {ws : va_W} {tys : List (ClassId × FieldType)} {a : Nat} (hexec : p.tables.exec = Jvm.exec) (hb : c.code = cc) (hK : va_K D cl tys s) (hP : va_P D cl ws H) (q0 t0 : Nat) {cA : ClassId} {n : Nat} {f : Nat → Int32} (ha : ws[q0]? = some (a, .inl (cA, n, .inl f))) (ht : tys[t0]? = some (cA, .int)) {i : Int32} {x : Int32} (hout : ¬ vp_in i n) (hdg : decode cc pc = .ok (.iastore, 1))
    (k : ∀ tx : String, tx = (toString "Index " ++ toString i ++ toString " out of bounds for length " ++ toString n : String) → vx_Note p l e R s m args below meth c H locs cells slots Q (F0 m pc ls rest) "java/lang/ArrayIndexOutOfBoundsException" tx) : W p l e R s m args below meth c H locs cells slots Q (F0 m pc ls (.int x :: .int i :: .ref a :: rest)) := by
  intro T hT X
  obtain ⟨t, st, q⟩ := k _ rfl T hT X
  refine ⟨t, ?_, q⟩
  have h1 := X.iastoreOut hexec (by rw [hT]; exact hP q0 _ ha) ((hK.2 t0 _ ht).1 n (fun j => .int (f j))) (j := i) (by show (i < 0 ∨ (arrV _ _ _).slots.size ≤ _); rw [arrV_size]; exact Classical.byContradiction hout) (g := F0 m pc ls (.int x :: .int i :: .ref a :: rest)) rfl (rest := rest) rfl (by rw [hb]; exact hdg) t
  simp only [arrV_size] at h1
  exact h1 st
theorem vx_baldZ {D : va_G} {cl : List vw_C} {ws : va_W} {tys : List (ClassId × FieldType)} {a : Nat} (hexec : p.tables.exec = Jvm.exec) (hb : c.code = cc) (hK : va_K D cl tys s) (hP : va_P D cl ws H) (q0 t0 : Nat) {cA : ClassId} {n : Nat} {f : Nat → Int32} (ha : ws[q0]? = some (a, .inl (cA, n, .inl f))) (ht : tys[t0]? = some (cA, .byte)) {i : Int32} (hout : ¬ vp_in i n) (hdg : decode cc pc = .ok (.baload, 1))
    (k : ∀ tx : String, tx = (toString "Index " ++ toString i ++ toString " out of bounds for length " ++ toString n : String) → vx_Note p l e R s m args below meth c H locs cells slots Q (F0 m pc ls rest) "java/lang/ArrayIndexOutOfBoundsException" tx) : W p l e R s m args below meth c H locs cells slots Q (F0 m pc ls (.int i :: .ref a :: rest)) := by
  intro T hT X
  obtain ⟨t, st, q⟩ := k _ rfl T hT X
  refine ⟨t, ?_, q⟩
  have h1 := X.baloadOut hexec (by rw [hT]; exact hP q0 _ ha) ((hK.2 t0 _ ht).1 n (fun j => .int (f j))) (j := i) (by show (i < 0 ∨ (arrV _ _ _).slots.size ≤ _); rw [arrV_size]; exact Classical.byContradiction hout) (g := F0 m pc ls (.int i :: .ref a :: rest)) rfl (rest := rest) rfl (by rw [hb]; exact hdg) t
  simp only [arrV_size] at h1
  exact h1 st
theorem vx_bastZ {D : va_G} {cl : List vw_C} {ws : va_W} {tys : List (ClassId × FieldType)} {a : Nat} (hexec : p.tables.exec = Jvm.exec) (hb : c.code = cc) (hK : va_K D cl tys s) (hP : va_P D cl ws H) (q0 t0 : Nat) {cA : ClassId} {n : Nat} {f : Nat → Int32} (ha : ws[q0]? = some (a, .inl (cA, n, .inl f))) (ht : tys[t0]? = some (cA, .byte)) {i : Int32} {x : Int32} (hout : ¬ vp_in i n) (hdg : decode cc pc = .ok (.bastore, 1))
    (k : ∀ tx : String, tx = (toString "Index " ++ toString i ++ toString " out of bounds for length " ++ toString n : String) → vx_Note p l e R s m args below meth c H locs cells slots Q (F0 m pc ls rest) "java/lang/ArrayIndexOutOfBoundsException" tx) : W p l e R s m args below meth c H locs cells slots Q (F0 m pc ls (.int x :: .int i :: .ref a :: rest)) := by
  intro T hT X
  obtain ⟨t, st, q⟩ := k _ rfl T hT X
  refine ⟨t, ?_, q⟩
  have h1 := X.bastoreOut hexec (by rw [hT]; exact hP q0 _ ha) ((hK.2 t0 _ ht).1 n (fun j => .int (f j))) (j := i) (by show (i < 0 ∨ (arrV _ _ _).slots.size ≤ _); rw [arrV_size]; exact Classical.byContradiction hout) (g := F0 m pc ls (.int x :: .int i :: .ref a :: rest)) rfl (rest := rest) rfl (by rw [hb]; exact hdg) t
  simp only [arrV_size] at h1
  exact h1 st
theorem vx_zaldZ {D : va_G} {cl : List vw_C} {ws : va_W} {tys : List (ClassId × FieldType)} {a : Nat} (hexec : p.tables.exec = Jvm.exec) (hb : c.code = cc) (hK : va_K D cl tys s) (hP : va_P D cl ws H) (q0 t0 : Nat) {cA : ClassId} {n : Nat} {f : Nat → Int32} (ha : ws[q0]? = some (a, .inl (cA, n, .inl f))) (ht : tys[t0]? = some (cA, .boolean)) {i : Int32} (hout : ¬ vp_in i n) (hdg : decode cc pc = .ok (.baload, 1))
    (k : ∀ tx : String, tx = (toString "Index " ++ toString i ++ toString " out of bounds for length " ++ toString n : String) → vx_Note p l e R s m args below meth c H locs cells slots Q (F0 m pc ls rest) "java/lang/ArrayIndexOutOfBoundsException" tx) : W p l e R s m args below meth c H locs cells slots Q (F0 m pc ls (.int i :: .ref a :: rest)) := by
  intro T hT X
  obtain ⟨t, st, q⟩ := k _ rfl T hT X
  refine ⟨t, ?_, q⟩
  have h1 := X.baloadOut hexec (by rw [hT]; exact hP q0 _ ha) ((hK.2 t0 _ ht).1 n (fun j => .int (f j))) (j := i) (by show (i < 0 ∨ (arrV _ _ _).slots.size ≤ _); rw [arrV_size]; exact Classical.byContradiction hout) (g := F0 m pc ls (.int i :: .ref a :: rest)) rfl (rest := rest) rfl (by rw [hb]; exact hdg) t
  simp only [arrV_size] at h1
  exact h1 st
theorem vx_zastZ {D : va_G} {cl : List vw_C} {ws : va_W} {tys : List (ClassId × FieldType)} {a : Nat} (hexec : p.tables.exec = Jvm.exec) (hb : c.code = cc) (hK : va_K D cl tys s) (hP : va_P D cl ws H) (q0 t0 : Nat) {cA : ClassId} {n : Nat} {f : Nat → Int32} (ha : ws[q0]? = some (a, .inl (cA, n, .inl f))) (ht : tys[t0]? = some (cA, .boolean)) {i : Int32} {x : Int32} (hout : ¬ vp_in i n) (hdg : decode cc pc = .ok (.bastore, 1))
    (k : ∀ tx : String, tx = (toString "Index " ++ toString i ++ toString " out of bounds for length " ++ toString n : String) → vx_Note p l e R s m args below meth c H locs cells slots Q (F0 m pc ls rest) "java/lang/ArrayIndexOutOfBoundsException" tx) : W p l e R s m args below meth c H locs cells slots Q (F0 m pc ls (.int x :: .int i :: .ref a :: rest)) := by
  intro T hT X
  obtain ⟨t, st, q⟩ := k _ rfl T hT X
  refine ⟨t, ?_, q⟩
  have h1 := X.bastoreOut hexec (by rw [hT]; exact hP q0 _ ha) ((hK.2 t0 _ ht).1 n (fun j => .int (f j))) (j := i) (by show (i < 0 ∨ (arrV _ _ _).slots.size ≤ _); rw [arrV_size]; exact Classical.byContradiction hout) (g := F0 m pc ls (.int x :: .int i :: .ref a :: rest)) rfl (rest := rest) rfl (by rw [hb]; exact hdg) t
  simp only [arrV_size] at h1
  exact h1 st
theorem vx_caldZ {D : va_G} {cl : List vw_C} {ws : va_W} {tys : List (ClassId × FieldType)} {a : Nat} (hexec : p.tables.exec = Jvm.exec) (hb : c.code = cc) (hK : va_K D cl tys s) (hP : va_P D cl ws H) (q0 t0 : Nat) {cA : ClassId} {n : Nat} {f : Nat → Int32} (ha : ws[q0]? = some (a, .inl (cA, n, .inl f))) (ht : tys[t0]? = some (cA, .char)) {i : Int32} (hout : ¬ vp_in i n) (hdg : decode cc pc = .ok (.caload, 1))
    (k : ∀ tx : String, tx = (toString "Index " ++ toString i ++ toString " out of bounds for length " ++ toString n : String) → vx_Note p l e R s m args below meth c H locs cells slots Q (F0 m pc ls rest) "java/lang/ArrayIndexOutOfBoundsException" tx) : W p l e R s m args below meth c H locs cells slots Q (F0 m pc ls (.int i :: .ref a :: rest)) := by
  intro T hT X
  obtain ⟨t, st, q⟩ := k _ rfl T hT X
  refine ⟨t, ?_, q⟩
  have h1 := X.caloadOut hexec (by rw [hT]; exact hP q0 _ ha) ((hK.2 t0 _ ht).1 n (fun j => .int (f j))) (j := i) (by show (i < 0 ∨ (arrV _ _ _).slots.size ≤ _); rw [arrV_size]; exact Classical.byContradiction hout) (g := F0 m pc ls (.int i :: .ref a :: rest)) rfl (rest := rest) rfl (by rw [hb]; exact hdg) t
  simp only [arrV_size] at h1
  exact h1 st
theorem vx_castZ {D : va_G} {cl : List vw_C} {ws : va_W} {tys : List (ClassId × FieldType)} {a : Nat} (hexec : p.tables.exec = Jvm.exec) (hb : c.code = cc) (hK : va_K D cl tys s) (hP : va_P D cl ws H) (q0 t0 : Nat) {cA : ClassId} {n : Nat} {f : Nat → Int32} (ha : ws[q0]? = some (a, .inl (cA, n, .inl f))) (ht : tys[t0]? = some (cA, .char)) {i : Int32} {x : Int32} (hout : ¬ vp_in i n) (hdg : decode cc pc = .ok (.castore, 1))
    (k : ∀ tx : String, tx = (toString "Index " ++ toString i ++ toString " out of bounds for length " ++ toString n : String) → vx_Note p l e R s m args below meth c H locs cells slots Q (F0 m pc ls rest) "java/lang/ArrayIndexOutOfBoundsException" tx) : W p l e R s m args below meth c H locs cells slots Q (F0 m pc ls (.int x :: .int i :: .ref a :: rest)) := by
  intro T hT X
  obtain ⟨t, st, q⟩ := k _ rfl T hT X
  refine ⟨t, ?_, q⟩
  have h1 := X.castoreOut hexec (by rw [hT]; exact hP q0 _ ha) ((hK.2 t0 _ ht).1 n (fun j => .int (f j))) (j := i) (by show (i < 0 ∨ (arrV _ _ _).slots.size ≤ _); rw [arrV_size]; exact Classical.byContradiction hout) (g := F0 m pc ls (.int x :: .int i :: .ref a :: rest)) rfl (rest := rest) rfl (by rw [hb]; exact hdg) t
  simp only [arrV_size] at h1
  exact h1 st
theorem vx_saldZ {D : va_G} {cl : List vw_C} {ws : va_W} {tys : List (ClassId × FieldType)} {a : Nat} (hexec : p.tables.exec = Jvm.exec) (hb : c.code = cc) (hK : va_K D cl tys s) (hP : va_P D cl ws H) (q0 t0 : Nat) {cA : ClassId} {n : Nat} {f : Nat → Int32} (ha : ws[q0]? = some (a, .inl (cA, n, .inl f))) (ht : tys[t0]? = some (cA, .short)) {i : Int32} (hout : ¬ vp_in i n) (hdg : decode cc pc = .ok (.saload, 1))
    (k : ∀ tx : String, tx = (toString "Index " ++ toString i ++ toString " out of bounds for length " ++ toString n : String) → vx_Note p l e R s m args below meth c H locs cells slots Q (F0 m pc ls rest) "java/lang/ArrayIndexOutOfBoundsException" tx) : W p l e R s m args below meth c H locs cells slots Q (F0 m pc ls (.int i :: .ref a :: rest)) := by
  intro T hT X
  obtain ⟨t, st, q⟩ := k _ rfl T hT X
  refine ⟨t, ?_, q⟩
  have h1 := X.saloadOut hexec (by rw [hT]; exact hP q0 _ ha) ((hK.2 t0 _ ht).1 n (fun j => .int (f j))) (j := i) (by show (i < 0 ∨ (arrV _ _ _).slots.size ≤ _); rw [arrV_size]; exact Classical.byContradiction hout) (g := F0 m pc ls (.int i :: .ref a :: rest)) rfl (rest := rest) rfl (by rw [hb]; exact hdg) t
  simp only [arrV_size] at h1
  exact h1 st
theorem vx_sastZ {D : va_G} {cl : List vw_C} {ws : va_W} {tys : List (ClassId × FieldType)} {a : Nat} (hexec : p.tables.exec = Jvm.exec) (hb : c.code = cc) (hK : va_K D cl tys s) (hP : va_P D cl ws H) (q0 t0 : Nat) {cA : ClassId} {n : Nat} {f : Nat → Int32} (ha : ws[q0]? = some (a, .inl (cA, n, .inl f))) (ht : tys[t0]? = some (cA, .short)) {i : Int32} {x : Int32} (hout : ¬ vp_in i n) (hdg : decode cc pc = .ok (.sastore, 1))
    (k : ∀ tx : String, tx = (toString "Index " ++ toString i ++ toString " out of bounds for length " ++ toString n : String) → vx_Note p l e R s m args below meth c H locs cells slots Q (F0 m pc ls rest) "java/lang/ArrayIndexOutOfBoundsException" tx) : W p l e R s m args below meth c H locs cells slots Q (F0 m pc ls (.int x :: .int i :: .ref a :: rest)) := by
  intro T hT X
  obtain ⟨t, st, q⟩ := k _ rfl T hT X
  refine ⟨t, ?_, q⟩
  have h1 := X.sastoreOut hexec (by rw [hT]; exact hP q0 _ ha) ((hK.2 t0 _ ht).1 n (fun j => .int (f j))) (j := i) (by show (i < 0 ∨ (arrV _ _ _).slots.size ≤ _); rw [arrV_size]; exact Classical.byContradiction hout) (g := F0 m pc ls (.int x :: .int i :: .ref a :: rest)) rfl (rest := rest) rfl (by rw [hb]; exact hdg) t
  simp only [arrV_size] at h1
  exact h1 st
theorem vx_laldZ {D : va_G} {cl : List vw_C} {ws : va_W} {tys : List (ClassId × FieldType)} {a : Nat} (hexec : p.tables.exec = Jvm.exec) (hb : c.code = cc) (hK : va_K D cl tys s) (hP : va_P D cl ws H) (q0 t0 : Nat) {cA : ClassId} {n : Nat} {f : Nat → Int64} (ha : ws[q0]? = some (a, .inl (cA, n, .inr (.inl f)))) (ht : tys[t0]? = some (cA, .long)) {i : Int32} (hout : ¬ vp_in i n) (hdg : decode cc pc = .ok (.laload, 1))
    (k : ∀ tx : String, tx = (toString "Index " ++ toString i ++ toString " out of bounds for length " ++ toString n : String) → vx_Note p l e R s m args below meth c H locs cells slots Q (F0 m pc ls rest) "java/lang/ArrayIndexOutOfBoundsException" tx) : W p l e R s m args below meth c H locs cells slots Q (F0 m pc ls (.int i :: .ref a :: rest)) := by
  intro T hT X
  obtain ⟨t, st, q⟩ := k _ rfl T hT X
  refine ⟨t, ?_, q⟩
  have h1 := X.laloadOut hexec (by rw [hT]; exact hP q0 _ ha) ((hK.2 t0 _ ht).1 n (fun j => .long (f j))) (j := i) (by show (i < 0 ∨ (arrV _ _ _).slots.size ≤ _); rw [arrV_size]; exact Classical.byContradiction hout) (g := F0 m pc ls (.int i :: .ref a :: rest)) rfl (rest := rest) rfl (by rw [hb]; exact hdg) t
  simp only [arrV_size] at h1
  exact h1 st
theorem vx_lastZ {D : va_G} {cl : List vw_C} {ws : va_W} {tys : List (ClassId × FieldType)} {a : Nat} (hexec : p.tables.exec = Jvm.exec) (hb : c.code = cc) (hK : va_K D cl tys s) (hP : va_P D cl ws H) (q0 t0 : Nat) {cA : ClassId} {n : Nat} {f : Nat → Int64} (ha : ws[q0]? = some (a, .inl (cA, n, .inr (.inl f)))) (ht : tys[t0]? = some (cA, .long)) {i : Int32} {x : Int64} (hout : ¬ vp_in i n) (hdg : decode cc pc = .ok (.lastore, 1))
    (k : ∀ tx : String, tx = (toString "Index " ++ toString i ++ toString " out of bounds for length " ++ toString n : String) → vx_Note p l e R s m args below meth c H locs cells slots Q (F0 m pc ls rest) "java/lang/ArrayIndexOutOfBoundsException" tx) : W p l e R s m args below meth c H locs cells slots Q (F0 m pc ls (.long x :: .int i :: .ref a :: rest)) := by
  intro T hT X
  obtain ⟨t, st, q⟩ := k _ rfl T hT X
  refine ⟨t, ?_, q⟩
  have h1 := X.lastoreOut hexec (by rw [hT]; exact hP q0 _ ha) ((hK.2 t0 _ ht).1 n (fun j => .long (f j))) (j := i) (by show (i < 0 ∨ (arrV _ _ _).slots.size ≤ _); rw [arrV_size]; exact Classical.byContradiction hout) (g := F0 m pc ls (.long x :: .int i :: .ref a :: rest)) rfl (rest := rest) rfl (by rw [hb]; exact hdg) t
  simp only [arrV_size] at h1
  exact h1 st
theorem vx_faldZ {D : va_G} {cl : List vw_C} {ws : va_W} {tys : List (ClassId × FieldType)} {a : Nat} (hexec : p.tables.exec = Jvm.exec) (hb : c.code = cc) (hK : va_K D cl tys s) (hP : va_P D cl ws H) (q0 t0 : Nat) {cA : ClassId} {n : Nat} {f : Nat → UInt32} (ha : ws[q0]? = some (a, .inl (cA, n, .inr (.inr (.inl f))))) (ht : tys[t0]? = some (cA, .float)) {i : Int32} (hout : ¬ vp_in i n) (hdg : decode cc pc = .ok (.faload, 1))
    (k : ∀ tx : String, tx = (toString "Index " ++ toString i ++ toString " out of bounds for length " ++ toString n : String) → vx_Note p l e R s m args below meth c H locs cells slots Q (F0 m pc ls rest) "java/lang/ArrayIndexOutOfBoundsException" tx) : W p l e R s m args below meth c H locs cells slots Q (F0 m pc ls (.int i :: .ref a :: rest)) := by
  intro T hT X
  obtain ⟨t, st, q⟩ := k _ rfl T hT X
  refine ⟨t, ?_, q⟩
  have h1 := X.faloadOut hexec (by rw [hT]; exact hP q0 _ ha) ((hK.2 t0 _ ht).1 n (fun j => .float (f j))) (j := i) (by show (i < 0 ∨ (arrV _ _ _).slots.size ≤ _); rw [arrV_size]; exact Classical.byContradiction hout) (g := F0 m pc ls (.int i :: .ref a :: rest)) rfl (rest := rest) rfl (by rw [hb]; exact hdg) t
  simp only [arrV_size] at h1
  exact h1 st
theorem vx_fastZ {D : va_G} {cl : List vw_C} {ws : va_W} {tys : List (ClassId × FieldType)} {a : Nat} (hexec : p.tables.exec = Jvm.exec) (hb : c.code = cc) (hK : va_K D cl tys s) (hP : va_P D cl ws H) (q0 t0 : Nat) {cA : ClassId} {n : Nat} {f : Nat → UInt32} (ha : ws[q0]? = some (a, .inl (cA, n, .inr (.inr (.inl f))))) (ht : tys[t0]? = some (cA, .float)) {i : Int32} {x : UInt32} (hout : ¬ vp_in i n) (hdg : decode cc pc = .ok (.fastore, 1))
    (k : ∀ tx : String, tx = (toString "Index " ++ toString i ++ toString " out of bounds for length " ++ toString n : String) → vx_Note p l e R s m args below meth c H locs cells slots Q (F0 m pc ls rest) "java/lang/ArrayIndexOutOfBoundsException" tx) : W p l e R s m args below meth c H locs cells slots Q (F0 m pc ls (.float x :: .int i :: .ref a :: rest)) := by
  intro T hT X
  obtain ⟨t, st, q⟩ := k _ rfl T hT X
  refine ⟨t, ?_, q⟩
  have h1 := X.fastoreOut hexec (by rw [hT]; exact hP q0 _ ha) ((hK.2 t0 _ ht).1 n (fun j => .float (f j))) (j := i) (by show (i < 0 ∨ (arrV _ _ _).slots.size ≤ _); rw [arrV_size]; exact Classical.byContradiction hout) (g := F0 m pc ls (.float x :: .int i :: .ref a :: rest)) rfl (rest := rest) rfl (by rw [hb]; exact hdg) t
  simp only [arrV_size] at h1
  exact h1 st
theorem vx_daldZ {D : va_G} {cl : List vw_C} {ws : va_W} {tys : List (ClassId × FieldType)} {a : Nat} (hexec : p.tables.exec = Jvm.exec) (hb : c.code = cc) (hK : va_K D cl tys s) (hP : va_P D cl ws H) (q0 t0 : Nat) {cA : ClassId} {n : Nat} {f : Nat → UInt64} (ha : ws[q0]? = some (a, .inl (cA, n, .inr (.inr (.inr (.inl f)))))) (ht : tys[t0]? = some (cA, .double)) {i : Int32} (hout : ¬ vp_in i n) (hdg : decode cc pc = .ok (.daload, 1))
    (k : ∀ tx : String, tx = (toString "Index " ++ toString i ++ toString " out of bounds for length " ++ toString n : String) → vx_Note p l e R s m args below meth c H locs cells slots Q (F0 m pc ls rest) "java/lang/ArrayIndexOutOfBoundsException" tx) : W p l e R s m args below meth c H locs cells slots Q (F0 m pc ls (.int i :: .ref a :: rest)) := by
  intro T hT X
  obtain ⟨t, st, q⟩ := k _ rfl T hT X
  refine ⟨t, ?_, q⟩
  have h1 := X.daloadOut hexec (by rw [hT]; exact hP q0 _ ha) ((hK.2 t0 _ ht).1 n (fun j => .double (f j))) (j := i) (by show (i < 0 ∨ (arrV _ _ _).slots.size ≤ _); rw [arrV_size]; exact Classical.byContradiction hout) (g := F0 m pc ls (.int i :: .ref a :: rest)) rfl (rest := rest) rfl (by rw [hb]; exact hdg) t
  simp only [arrV_size] at h1
  exact h1 st
theorem vx_dastZ {D : va_G} {cl : List vw_C} {ws : va_W} {tys : List (ClassId × FieldType)} {a : Nat} (hexec : p.tables.exec = Jvm.exec) (hb : c.code = cc) (hK : va_K D cl tys s) (hP : va_P D cl ws H) (q0 t0 : Nat) {cA : ClassId} {n : Nat} {f : Nat → UInt64} (ha : ws[q0]? = some (a, .inl (cA, n, .inr (.inr (.inr (.inl f)))))) (ht : tys[t0]? = some (cA, .double)) {i : Int32} {x : UInt64} (hout : ¬ vp_in i n) (hdg : decode cc pc = .ok (.dastore, 1))
    (k : ∀ tx : String, tx = (toString "Index " ++ toString i ++ toString " out of bounds for length " ++ toString n : String) → vx_Note p l e R s m args below meth c H locs cells slots Q (F0 m pc ls rest) "java/lang/ArrayIndexOutOfBoundsException" tx) : W p l e R s m args below meth c H locs cells slots Q (F0 m pc ls (.double x :: .int i :: .ref a :: rest)) := by
  intro T hT X
  obtain ⟨t, st, q⟩ := k _ rfl T hT X
  refine ⟨t, ?_, q⟩
  have h1 := X.dastoreOut hexec (by rw [hT]; exact hP q0 _ ha) ((hK.2 t0 _ ht).1 n (fun j => .double (f j))) (j := i) (by show (i < 0 ∨ (arrV _ _ _).slots.size ≤ _); rw [arrV_size]; exact Classical.byContradiction hout) (g := F0 m pc ls (.double x :: .int i :: .ref a :: rest)) rfl (rest := rest) rfl (by rw [hb]; exact hdg) t
  simp only [arrV_size] at h1
  exact h1 st
theorem vx_arraylengthN (hexec : p.tables.exec = Jvm.exec) (hb : c.code = cc) (hdg : decode cc pc = .ok (.arraylength, 1)) (k : vx_NoteN p l e R s m args below meth c H locs cells slots Q (F0 m pc ls rest)) : W p l e R s m args below meth c H locs cells slots Q (F0 m pc ls (.null :: rest)) := by
  intro T hT X
  obtain ⟨t, st, q⟩ := k T hT X
  exact ⟨t, X.arraylengthNull hexec (g := F0 m pc ls (.null :: rest)) rfl (rest := rest) rfl (by rw [hb]; exact hdg) t st, q⟩
theorem vx_ialoadN (hexec : p.tables.exec = Jvm.exec) (hb : c.code = cc) {i : Int32} (hdg : decode cc pc = .ok (.iaload, 1)) (k : vx_NoteN p l e R s m args below meth c H locs cells slots Q (F0 m pc ls rest)) : W p l e R s m args below meth c H locs cells slots Q (F0 m pc ls (.int i :: .null :: rest)) := by
  intro T hT X
  obtain ⟨t, st, q⟩ := k T hT X
  exact ⟨t, X.ialoadNull hexec (g := F0 m pc ls (.int i :: .null :: rest)) rfl (rest := rest) rfl (by rw [hb]; exact hdg) t st, q⟩
theorem vx_laloadN (hexec : p.tables.exec = Jvm.exec) (hb : c.code = cc) {i : Int32} (hdg : decode cc pc = .ok (.laload, 1)) (k : vx_NoteN p l e R s m args below meth c H locs cells slots Q (F0 m pc ls rest)) : W p l e R s m args below meth c H locs cells slots Q (F0 m pc ls (.int i :: .null :: rest)) := by
  intro T hT X
  obtain ⟨t, st, q⟩ := k T hT X
  exact ⟨t, X.laloadNull hexec (g := F0 m pc ls (.int i :: .null :: rest)) rfl (rest := rest) rfl (by rw [hb]; exact hdg) t st, q⟩
theorem vx_faloadN (hexec : p.tables.exec = Jvm.exec) (hb : c.code = cc) {i : Int32} (hdg : decode cc pc = .ok (.faload, 1)) (k : vx_NoteN p l e R s m args below meth c H locs cells slots Q (F0 m pc ls rest)) : W p l e R s m args below meth c H locs cells slots Q (F0 m pc ls (.int i :: .null :: rest)) := by
  intro T hT X
  obtain ⟨t, st, q⟩ := k T hT X
  exact ⟨t, X.faloadNull hexec (g := F0 m pc ls (.int i :: .null :: rest)) rfl (rest := rest) rfl (by rw [hb]; exact hdg) t st, q⟩
theorem vx_daloadN (hexec : p.tables.exec = Jvm.exec) (hb : c.code = cc) {i : Int32} (hdg : decode cc pc = .ok (.daload, 1)) (k : vx_NoteN p l e R s m args below meth c H locs cells slots Q (F0 m pc ls rest)) : W p l e R s m args below meth c H locs cells slots Q (F0 m pc ls (.int i :: .null :: rest)) := by
  intro T hT X
  obtain ⟨t, st, q⟩ := k T hT X
  exact ⟨t, X.daloadNull hexec (g := F0 m pc ls (.int i :: .null :: rest)) rfl (rest := rest) rfl (by rw [hb]; exact hdg) t st, q⟩
theorem vx_aaloadN (hexec : p.tables.exec = Jvm.exec) (hb : c.code = cc) {i : Int32} (hdg : decode cc pc = .ok (.aaload, 1)) (k : vx_NoteN p l e R s m args below meth c H locs cells slots Q (F0 m pc ls rest)) : W p l e R s m args below meth c H locs cells slots Q (F0 m pc ls (.int i :: .null :: rest)) := by
  intro T hT X
  obtain ⟨t, st, q⟩ := k T hT X
  exact ⟨t, X.aaloadNull hexec (g := F0 m pc ls (.int i :: .null :: rest)) rfl (rest := rest) rfl (by rw [hb]; exact hdg) t st, q⟩
theorem vx_baloadN (hexec : p.tables.exec = Jvm.exec) (hb : c.code = cc) {i : Int32} (hdg : decode cc pc = .ok (.baload, 1)) (k : vx_NoteN p l e R s m args below meth c H locs cells slots Q (F0 m pc ls rest)) : W p l e R s m args below meth c H locs cells slots Q (F0 m pc ls (.int i :: .null :: rest)) := by
  intro T hT X
  obtain ⟨t, st, q⟩ := k T hT X
  exact ⟨t, X.baloadNull hexec (g := F0 m pc ls (.int i :: .null :: rest)) rfl (rest := rest) rfl (by rw [hb]; exact hdg) t st, q⟩
theorem vx_caloadN (hexec : p.tables.exec = Jvm.exec) (hb : c.code = cc) {i : Int32} (hdg : decode cc pc = .ok (.caload, 1)) (k : vx_NoteN p l e R s m args below meth c H locs cells slots Q (F0 m pc ls rest)) : W p l e R s m args below meth c H locs cells slots Q (F0 m pc ls (.int i :: .null :: rest)) := by
  intro T hT X
  obtain ⟨t, st, q⟩ := k T hT X
  exact ⟨t, X.caloadNull hexec (g := F0 m pc ls (.int i :: .null :: rest)) rfl (rest := rest) rfl (by rw [hb]; exact hdg) t st, q⟩
theorem vx_saloadN (hexec : p.tables.exec = Jvm.exec) (hb : c.code = cc) {i : Int32} (hdg : decode cc pc = .ok (.saload, 1)) (k : vx_NoteN p l e R s m args below meth c H locs cells slots Q (F0 m pc ls rest)) : W p l e R s m args below meth c H locs cells slots Q (F0 m pc ls (.int i :: .null :: rest)) := by
  intro T hT X
  obtain ⟨t, st, q⟩ := k T hT X
  exact ⟨t, X.saloadNull hexec (g := F0 m pc ls (.int i :: .null :: rest)) rfl (rest := rest) rfl (by rw [hb]; exact hdg) t st, q⟩
theorem vx_iastoreN (hexec : p.tables.exec = Jvm.exec) (hb : c.code = cc) {x : Int32} {i : Int32} (hdg : decode cc pc = .ok (.iastore, 1)) (k : vx_NoteN p l e R s m args below meth c H locs cells slots Q (F0 m pc ls rest)) : W p l e R s m args below meth c H locs cells slots Q (F0 m pc ls (.int x :: .int i :: .null :: rest)) := by
  intro T hT X
  obtain ⟨t, st, q⟩ := k T hT X
  exact ⟨t, X.iastoreNull hexec (g := F0 m pc ls (.int x :: .int i :: .null :: rest)) rfl (rest := rest) rfl (by rw [hb]; exact hdg) t st, q⟩
theorem vx_lastoreN (hexec : p.tables.exec = Jvm.exec) (hb : c.code = cc) {x : Int64} {i : Int32} (hdg : decode cc pc = .ok (.lastore, 1)) (k : vx_NoteN p l e R s m args below meth c H locs cells slots Q (F0 m pc ls rest)) : W p l e R s m args below meth c H locs cells slots Q (F0 m pc ls (.long x :: .int i :: .null :: rest)) := by
  intro T hT X
  obtain ⟨t, st, q⟩ := k T hT X
  exact ⟨t, X.lastoreNull hexec (g := F0 m pc ls (.long x :: .int i :: .null :: rest)) rfl (rest := rest) rfl (by rw [hb]; exact hdg) t st, q⟩
theorem vx_fastoreN (hexec : p.tables.exec = Jvm.exec) (hb : c.code = cc) {x : UInt32} {i : Int32} (hdg : decode cc pc = .ok (.fastore, 1)) (k : vx_NoteN p l e R s m args below meth c H locs cells slots Q (F0 m pc ls rest)) : W p l e R s m args below meth c H locs cells slots Q (F0 m pc ls (.float x :: .int i :: .null :: rest)) := by
  intro T hT X
  obtain ⟨t, st, q⟩ := k T hT X
  exact ⟨t, X.fastoreNull hexec (g := F0 m pc ls (.float x :: .int i :: .null :: rest)) rfl (rest := rest) rfl (by rw [hb]; exact hdg) t st, q⟩
theorem vx_dastoreN (hexec : p.tables.exec = Jvm.exec) (hb : c.code = cc) {x : UInt64} {i : Int32} (hdg : decode cc pc = .ok (.dastore, 1)) (k : vx_NoteN p l e R s m args below meth c H locs cells slots Q (F0 m pc ls rest)) : W p l e R s m args below meth c H locs cells slots Q (F0 m pc ls (.double x :: .int i :: .null :: rest)) := by
  intro T hT X
  obtain ⟨t, st, q⟩ := k T hT X
  exact ⟨t, X.dastoreNull hexec (g := F0 m pc ls (.double x :: .int i :: .null :: rest)) rfl (rest := rest) rfl (by rw [hb]; exact hdg) t st, q⟩
theorem vx_bastoreN (hexec : p.tables.exec = Jvm.exec) (hb : c.code = cc) {x : Int32} {i : Int32} (hdg : decode cc pc = .ok (.bastore, 1)) (k : vx_NoteN p l e R s m args below meth c H locs cells slots Q (F0 m pc ls rest)) : W p l e R s m args below meth c H locs cells slots Q (F0 m pc ls (.int x :: .int i :: .null :: rest)) := by
  intro T hT X
  obtain ⟨t, st, q⟩ := k T hT X
  exact ⟨t, X.bastoreNull hexec (g := F0 m pc ls (.int x :: .int i :: .null :: rest)) rfl (rest := rest) rfl (by rw [hb]; exact hdg) t st, q⟩
theorem vx_castoreN (hexec : p.tables.exec = Jvm.exec) (hb : c.code = cc) {x : Int32} {i : Int32} (hdg : decode cc pc = .ok (.castore, 1)) (k : vx_NoteN p l e R s m args below meth c H locs cells slots Q (F0 m pc ls rest)) : W p l e R s m args below meth c H locs cells slots Q (F0 m pc ls (.int x :: .int i :: .null :: rest)) := by
  intro T hT X
  obtain ⟨t, st, q⟩ := k T hT X
  exact ⟨t, X.castoreNull hexec (g := F0 m pc ls (.int x :: .int i :: .null :: rest)) rfl (rest := rest) rfl (by rw [hb]; exact hdg) t st, q⟩
theorem vx_sastoreN (hexec : p.tables.exec = Jvm.exec) (hb : c.code = cc) {x : Int32} {i : Int32} (hdg : decode cc pc = .ok (.sastore, 1)) (k : vx_NoteN p l e R s m args below meth c H locs cells slots Q (F0 m pc ls rest)) : W p l e R s m args below meth c H locs cells slots Q (F0 m pc ls (.int x :: .int i :: .null :: rest)) := by
  intro T hT X
  obtain ⟨t, st, q⟩ := k T hT X
  exact ⟨t, X.sastoreNull hexec (g := F0 m pc ls (.int x :: .int i :: .null :: rest)) rfl (rest := rest) rfl (by rw [hb]; exact hdg) t st, q⟩
theorem vx_invokeN {own C : String} {index maxL : Nat} {y : MethodName} {bytes : ByteArray} {ret : Option FieldType} (hexec : p.tables.exec = Jvm.exec) (hb : c.code = cc) (hown : s.vm.findClass own = some m.cls) (hlink : (Cond.methodLink own index y).before args s = true) (hinst : (Cond.instanceMethod y).before args s = true) (hcode : (Cond.code y bytes maxL ret).before args s = true) (hsel : (Cond.selects C y y).before args s = true)
    (hx : y.cls ≠ "java/lang/invoke/MethodHandle" ∧ y.cls ≠ "java/lang/invoke/VarHandle") {As : List Value} (hlen : (parseMethodDescriptor y.desc).map (fun d => d.parameters.length) = some As.length) (hdg : decode cc pc = .ok (.invokevirtual index, 3))
    (k : vx_NoteN p l e R s m args below meth c H locs cells slots Q (F0 m pc ls rest)) {st0 : List Value} (hst : st0 = As.reverse ++ .null :: rest) : W p l e R s m args below meth c H locs cells slots Q (F0 m pc ls st0) := by
  intro T hT X
  obtain ⟨r0, r, hn, hrm, hstR, hsigR⟩ := va_Decl.of hinst hcode
  obtain ⟨c2, r2, m2, q1, q2, q3, q4, kP, hkP, hkPi⟩ := Cond.selects_spec hsel
  cases hn.symm.trans q3
  have hl9 : As.length = r.sig.parameters.length := by
    rw [hsigR] at hlen
    exact (Option.some.inj hlen).symm
  obtain ⟨vm', X1, st1⟩ := X.invokevirtualNull hexec hown hlink hn hrm hstR hkP hkPi hx (g := F0 m pc ls st0) rfl (argsL := As) (rest := rest) hl9 hst (by rw [hb]; exact hdg)
  obtain ⟨t, st, q⟩ := k (T.setVm vm') hT X1
  exact ⟨t, st1 t st, q⟩
theorem vx_newarrayZ {atype : ArrayType} (hexec : p.tables.exec = Jvm.exec) (hb : c.code = cc) {n : Int32} (h0 : n < 0) (hdg : decode cc pc = .ok (.newarray atype, 2)) (k : ∀ tx : String, tx = toString n → vx_Note p l e R s m args below meth c H locs cells slots Q (F0 m pc ls rest) "java/lang/NegativeArraySizeException" tx) : W p l e R s m args below meth c H locs cells slots Q (F0 m pc ls (.int n :: rest)) := by
  intro T hT X
  obtain ⟨t, st, q⟩ := k _ rfl T hT X
  exact ⟨t, X.newarrayNegative hexec (g := F0 m pc ls (.int n :: rest)) rfl h0 (rest := rest) rfl (by rw [hb]; exact hdg) t st, q⟩
end
end VXM
/-! ===== END ===== -/
/-! ===== BEGIN an exception as an object: made, kept, thrown later (no traces kept) ===== -/
section VXK
variable {p : Program} {l : Launch} {e : Env} {R : Room} {s : State} {m₀ : MethodId} {args : Array Value} {below : List Frame} {meth : Method} {c : Code} {W : State} {locs : List Loc} {cells slots : Nat}
set_option maxHeartbeats 1000000 in
theorem vx_ctorMadeS (X : Stand p l e R s m₀ args below meth c W locs cells slots) (hexec : p.tables.exec = Jvm.exec) (htr : e.platform.stackTraces = false) {own cls : String} {names : List String} {ic : Nat}
    (hown : s.vm.findClass own = some m₀.cls) (hcls : Bundle.fit cls = true) (hnames : ∀ n ∈ names, Bundle.fit n = true)
    (h : ∀ a ∈ Bundle.ownAtoms own ic cls names, a.before args s = true)
    (hlocs : ∀ x ∈ locs, ∀ cell, s.heap[x.base]? = some cell → cell.vm.isStatics = false)
    {a : Addr} {cX : ClassId} {kX : Class} (hfoundX : s.vm.findClass cls = some cX) (hkX : s.vm.classes[cX]? = some kX) (hcell : W.heap[a]? = some (freshCell cX kX)) (hnew : s.heap.size ≤ a)
    {msg : Value} (hmsg : msg.isRef = true)
    {g : JFrame} (hg : g.method = m₀) (hsize : g.locals.size = c.maxLocals) {rest : List Value} (hstack : g.stack = msg :: .ref a :: .ref a :: rest)
    (hd6 : decode c.code g.pc = .ok (.invokespecial ic, 3))
    (hRframes : names.length + 3 < R.frames) (hRlocals : 2 * g.monitorRoom + ((Value.ref a :: rest).map fun v => v.category).sum + (13 * (names.length + 1) + 42) ≤ R.locals) :
    ∃ (V : State) (ce : Cell) (L : List Loc), Stand p l e R s m₀ args below meth c (V.setCell a ce) (locs ++ L) cells slots ∧ (∀ y ∈ L, y.base = a) ∧ a < V.heap.size ∧ ce.cls = cX ∧ ce.vm = .none ∧
      ∀ target, Steps p.tables e below ((V.setCell a ce).setTop { g with stack := .ref a :: rest, pc := g.pc + 3 }) target → Steps p.tables e below (W.setTop g) target := by
  have howns : e.platform.frameOwnsMonitors = true := by rw [X.admits.platform]
  have hfin : e.platform.finalization = false := by rw [X.admits.platform]
  have hpl : e.platform.magicAccessors = ({} : Platform).magicAccessors := by rw [X.admits.platform]
  have a' : ∀ x, x ∈ Bundle.ownAtoms own ic cls names → x.holds args s none s [] = true := fun x hx => h x hx
  obtain ⟨T, Z0, L, -, Y⟩ := ThrowableC.of_atoms (args := args) howns hfin hpl (fun x hx => h x (by simp [Bundle.ownAtoms, hx]))
  obtain ⟨Z, M, LZ, LM, hnZ⟩ := Init0T.ofS_atoms (args := args) hpl L Y (fun x hx => h x (by simp [Bundle.ownAtoms, hx]))
  obtain ⟨P1, Ps, hlen, L1, hL, hP1m, hlink1, hlink⟩ := Bundle.chainS (args := args) hpl hnZ names cls hcls hnames (fun x hx => h x (by simp [Bundle.ownAtoms, hx]))
  have hfound : s.vm.findClass cls = some P1.m.cls := findClass_of_methodNamed hP1m
  cases Option.some.inj (hfoundX.symm.trans hfound)
  obtain ⟨c1, kX', hc1, hk, hord, -, -, hn6⟩ := Cond.instantiable_spec (a' (.instantiable cls 6) (by simp [Bundle.ownAtoms]))
  cases Option.some.inj (hc1.symm.trans hfound)
  cases Option.some.inj (hkX.symm.trans hk)
  have hsel0 : selectMethod e.platform s.vm P1.m.cls T.fill0 = .method T.fill0 := by
    obtain ⟨c2, r2, m2, q1, q2, q3, q4, -⟩ := Cond.selects_spec (a' (.selects cls Bundle.tFill0 Bundle.tFill0) (by simp [Bundle.ownAtoms]))
    cases Option.some.inj (q1.symm.trans hfound)
    cases Option.some.inj (q2.symm.trans (State.methodFound?_of_named Y.fill0 (by decide)))
    cases Option.some.inj (q3.symm.trans Y.fill0)
    rw [Launch.admits_selectMethod X.admits]; exact q4
  have hselF : selectMethod e.platform s.vm P1.m.cls T.fill = .method T.fill := by
    obtain ⟨c2, r2, m2, q1, q2, q3, q4, -⟩ := Cond.selects_spec (a' (.selects cls Bundle.tFill Bundle.tFill) (by simp [Bundle.ownAtoms]))
    cases Option.some.inj (q1.symm.trans hfound)
    cases Option.some.inj (q2.symm.trans (State.methodFound?_of_named Y.fill (by decide)))
    cases Option.some.inj (q3.symm.trans Y.fill)
    rw [Launch.admits_selectMethod X.admits]; exact q4
  obtain ⟨cellS0, hcS0, hiss⟩ := Y.statics
  obtain ⟨u0, hu0⟩ := Cond.staticRefV Y.unassigned L.unassignedStatic L.statics hcS0 hiss (a' (.isRef (.static Bundle.tN "UNASSIGNED_STACK" Bundle.steD)) (by simp [Bundle.ownAtoms]))
  obtain ⟨sen, hsen⟩ := Cond.staticRefV Y.sentinel L.sentinelStatic L.statics hcS0 hiss (a' (.isRef (.static Bundle.tN "SUPPRESSED_SENTINEL" Bundle.listD)) (by simp [Bundle.ownAtoms]))
  obtain ⟨ci198, i198, fB, hk198, hg198, ha198, hsB, -, hnB, htB, hffB⟩ := Cond.ownField (t := .object "java/lang/Object") Y.found L.cls (by decide +kernel) (a' (.fieldLink Bundle.tN 198 Bundle.tN "backtrace" "Ljava/lang/Object;") (by simp [Bundle.ownAtoms])) (a' (.lays Bundle.tN Bundle.tN "backtrace" "Ljava/lang/Object;") (by simp [Bundle.ownAtoms])) e.platform hpl
  obtain ⟨cellS, hcS', heS, -, hkeep⟩ := X.same.2.2.2.2.2 T.aS cellS0 hcS0
  have hcellS : W.heap[T.aS]? = some cellS := hcS'
  have hout' : ∀ i, (⟨T.aS, i⟩ : Loc) ∉ locs := fun i hmem => by
    have := hlocs _ hmem cellS0 hcS0
    rw [hiss] at this; cases this
  have hknownS : cellS.vm ≠ .unknown := by
    rw [heS]; intro hu
    rw [show cellS0.vm = .unknown from hu] at hiss
    cases hiss
  have hneS : T.aS ≠ a := Nat.ne_of_lt (Nat.lt_of_lt_of_le (Array.getElem?_eq_some_iff.mp hcS0).1 hnew)
  obtain ⟨iM, hffM⟩ := Y.msg
  obtain ⟨tyC, dC, hdC, hdnC⟩ := Cond.laysAt hfound hk Y.cause (a' (.lays cls Bundle.tN "cause" "Ljava/lang/Throwable;") (by simp [Bundle.ownAtoms]))
  obtain ⟨tyS, dS, hdS, hdnS⟩ := Cond.laysAt hfound hk Y.stack (a' (.lays cls Bundle.tN "stackTrace" Bundle.steD) (by simp [Bundle.ownAtoms]))
  obtain ⟨tyP, dP, hdP, hdnP⟩ := Cond.laysAt hfound hk Y.supp (a' (.lays cls Bundle.tN "suppressedExceptions" Bundle.listD) (by simp [Bundle.ownAtoms]))
  obtain ⟨tyM, dM, hdM, hdnM⟩ := Cond.laysAt hfound hk hffM (a' (.lays cls Bundle.tN "detailMessage" "Ljava/lang/String;") (by simp [Bundle.ownAtoms]))
  obtain ⟨tyB, dB, hdB, hdnB⟩ := Cond.laysAt hfound hk hffB (a' (.lays cls Bundle.tN "backtrace" "Ljava/lang/Object;") (by simp [Bundle.ownAtoms]))
  have bC := Cond.laysApart hdB hdC hdnB hdnC (by rw [hnB, Y.causeName]; decide)
  have bS := Cond.laysApart hdB hdS hdnB hdnS (by rw [hnB, Y.stackName]; decide)
  have bP := Cond.laysApart hdB hdP hdnB hdnP (by rw [hnB, Y.suppName]; decide)
  have hskip : SkipFacts T e.platform s (fun u => u) u0 ((preparedCellV T.toThrowableT (freshCell P1.m.cls kX) a u0 sen).withEntry W.cur) :=
    ⟨{ ci198 := ci198, i198 := i198, fBack := fB }, ⟨hk198, hg198, ha198, hsB⟩, by
      have := fresh_default (c := P1.m.cls) tyB
      rw [htB] at this
      simpa [preparedCellV, Cell.setSlot, Cell.withEntry, Array.getElem?_setIfInBounds, bC, bS, bP, bC.symm, bS.symm, bP.symm, defaultValue] using this, fun _ _ => rfl⟩
  obtain ⟨tm, methC, cdC, kC, vm₁, hnC, -, -, -, -, -, -, -, hW₁, st1⟩ := Steps.initColdS (tb := p.tables) (e := e) (below := below) (s := s) (U := W) X.here hexec X.warmed hpl hown (t := Bundle.initS cls) rfl rfl (Bundle.fit_spec hcls).2
    (a' (.methodLink own ic (Bundle.initS cls)) (by simp [Bundle.ownAtoms])) (h (.instanceMethod (Bundle.initS cls)) (by cases names <;> simp [Bundle.ownAtoms, Bundle.chainSAtoms, Bundle.passSAtoms])) (bytes := Bundle.six) (maxL := 2) (h (.code (Bundle.initS cls) Bundle.six 2 none) (by cases names <;> simp [Bundle.ownAtoms, Bundle.chainSAtoms, Bundle.passSAtoms]))
    (f := g) hg (a := a) (msg := msg) (rest := .ref a :: rest) hstack hd6
  cases Option.some.inj (hnC.symm.trans hP1m)
  have X₁ := X.noted hW₁
  obtain ⟨vm₂, X₂, st2⟩ := X₁.ctorMessageOffV hexec (g := { g with stack := .ref a :: rest }) hg hsize T L Z LZ M LM (P1 :: Ps)
    (fun P hP => by rcases List.mem_cons.mp hP with rfl | hP; exact L1; exact hL P hP) ⟨hlink1, hlink⟩ (u0 := u0) (sen := sen) (self := a) hmsg (cell := freshCell P1.m.cls kX) (cellS := cellS)
    hcell (fun _ => by simp) (by simp) rfl rfl hsel0 hselF hcellS hneS hknownS (by rw [hkeep _ (hout' _)]; exact hu0) (by rw [hkeep _ (hout' _)]; exact hsen)
    (Takes.of_laid hk hord tyC (by rw [Y.causeType]; rfl)) (Takes.of_laid hk hord tyS (by rw [Y.stackType]; exact fits_refV_array _ u0)) (Takes.of_laid hk hord tyP (by rw [Y.suppType]; exact fits_refV_object _ sen))
    (Takes.of_laid hk hord tyM (by rw [Y.msgType]; exact fits_refV_object _ ⟨msg, hmsg⟩)) Y.objLocals hskip htr [] hd6
    (by simp only [List.length_cons, hlen]; omega) (by simp only [List.length_cons, hlen]; exact hRlocals)
  have hlt : a < ((W.setVm vm₁).setVm vm₂).heap.size := (Array.getElem?_eq_some_iff.mp hcell).1
  refine ⟨(W.setVm vm₁).setVm vm₂, _, _, X₂, fun y hy => ?_, hlt, rfl, rfl, fun target hwalk => st1 _ (fun acts => ?_)⟩
  · simp only [List.mem_cons, List.not_mem_nil, or_false] at hy
    rcases hy with rfl | rfl | rfl | rfl | rfl <;> rfl
  · rw [doInvoke_state]
    exact st2 _ hwalk
set_option maxHeartbeats 1000000 in
theorem vx_ctorMade0 (X : Stand p l e R s m₀ args below meth c W locs cells slots) (hexec : p.tables.exec = Jvm.exec) (htr : e.platform.stackTraces = false) {own cls : String} {names : List String} {ic : Nat}
    (hown : s.vm.findClass own = some m₀.cls) (hcls : Bundle.fit cls = true) (hnames : ∀ n ∈ names, Bundle.fit n = true)
    (h : ∀ a ∈ Bundle.ownAtoms0 own ic cls names, a.before args s = true)
    (hlocs : ∀ x ∈ locs, ∀ cell, s.heap[x.base]? = some cell → cell.vm.isStatics = false)
    {a : Addr} {cX : ClassId} {kX : Class} (hfoundX : s.vm.findClass cls = some cX) (hkX : s.vm.classes[cX]? = some kX) (hcell : W.heap[a]? = some (freshCell cX kX)) (hnew : s.heap.size ≤ a)
    {g : JFrame} (hg : g.method = m₀) (hsize : g.locals.size = c.maxLocals) {rest : List Value} (hstack : g.stack = .ref a :: .ref a :: rest)
    (hd6 : decode c.code g.pc = .ok (.invokespecial ic, 3))
    (hRframes : names.length + 3 < R.frames) (hRlocals : 2 * g.monitorRoom + ((Value.ref a :: rest).map fun v => v.category).sum + (13 * (names.length + 1) + 41) ≤ R.locals) :
    ∃ (V : State) (ce : Cell) (L : List Loc), Stand p l e R s m₀ args below meth c (V.setCell a ce) (locs ++ L) cells slots ∧ (∀ y ∈ L, y.base = a) ∧ a < V.heap.size ∧ ce.cls = cX ∧ ce.vm = .none ∧
      ∀ target, Steps p.tables e below ((V.setCell a ce).setTop { g with stack := .ref a :: rest, pc := g.pc + 3 }) target → Steps p.tables e below (W.setTop g) target := by
  have howns : e.platform.frameOwnsMonitors = true := by rw [X.admits.platform]
  have hfin : e.platform.finalization = false := by rw [X.admits.platform]
  have hpl : e.platform.magicAccessors = ({} : Platform).magicAccessors := by rw [X.admits.platform]
  have a' : ∀ x, x ∈ Bundle.ownAtoms0 own ic cls names → x.holds args s none s [] = true := fun x hx => h x hx
  obtain ⟨T, Z, L, LZ, Y⟩ := ThrowableC.of_atoms (args := args) howns hfin hpl (fun x hx => h x (by simp [Bundle.ownAtoms0, hx]))
  obtain ⟨P1, Ps, hlen, L1, hL, hP1m, hlink1, hlink⟩ := Bundle.chain0 (args := args) hpl Y.init0 names cls hcls hnames (fun x hx => h x (by simp [Bundle.ownAtoms0, hx]))
  have hfound : s.vm.findClass cls = some P1.m.cls := findClass_of_methodNamed hP1m
  cases Option.some.inj (hfoundX.symm.trans hfound)
  obtain ⟨c1, kX', hc1, hk, hord, -, -, hn6⟩ := Cond.instantiable_spec (a' (.instantiable cls 6) (by simp [Bundle.ownAtoms0]))
  cases Option.some.inj (hc1.symm.trans hfound)
  cases Option.some.inj (hkX.symm.trans hk)
  have hsel0 : selectMethod e.platform s.vm P1.m.cls T.fill0 = .method T.fill0 := by
    obtain ⟨c2, r2, m2, q1, q2, q3, q4, -⟩ := Cond.selects_spec (a' (.selects cls Bundle.tFill0 Bundle.tFill0) (by simp [Bundle.ownAtoms0]))
    cases Option.some.inj (q1.symm.trans hfound)
    cases Option.some.inj (q2.symm.trans (State.methodFound?_of_named Y.fill0 (by decide)))
    cases Option.some.inj (q3.symm.trans Y.fill0)
    rw [Launch.admits_selectMethod X.admits]; exact q4
  have hselF : selectMethod e.platform s.vm P1.m.cls T.fill = .method T.fill := by
    obtain ⟨c2, r2, m2, q1, q2, q3, q4, -⟩ := Cond.selects_spec (a' (.selects cls Bundle.tFill Bundle.tFill) (by simp [Bundle.ownAtoms0]))
    cases Option.some.inj (q1.symm.trans hfound)
    cases Option.some.inj (q2.symm.trans (State.methodFound?_of_named Y.fill (by decide)))
    cases Option.some.inj (q3.symm.trans Y.fill)
    rw [Launch.admits_selectMethod X.admits]; exact q4
  obtain ⟨cellS0, hcS0, hiss⟩ := Y.statics
  obtain ⟨u0, hu0⟩ := Cond.staticRefV Y.unassigned L.unassignedStatic L.statics hcS0 hiss (a' (.isRef (.static Bundle.tN "UNASSIGNED_STACK" Bundle.steD)) (by simp [Bundle.ownAtoms0]))
  obtain ⟨sen, hsen⟩ := Cond.staticRefV Y.sentinel L.sentinelStatic L.statics hcS0 hiss (a' (.isRef (.static Bundle.tN "SUPPRESSED_SENTINEL" Bundle.listD)) (by simp [Bundle.ownAtoms0]))
  obtain ⟨ci198, i198, fB, hk198, hg198, ha198, hsB, -, hnB, htB, hffB⟩ := Cond.ownField (t := .object "java/lang/Object") Y.found L.cls (by decide +kernel) (a' (.fieldLink Bundle.tN 198 Bundle.tN "backtrace" "Ljava/lang/Object;") (by simp [Bundle.ownAtoms0])) (a' (.lays Bundle.tN Bundle.tN "backtrace" "Ljava/lang/Object;") (by simp [Bundle.ownAtoms0])) e.platform hpl
  obtain ⟨cellS, hcS', heS, -, hkeep⟩ := X.same.2.2.2.2.2 T.aS cellS0 hcS0
  have hcellS : W.heap[T.aS]? = some cellS := hcS'
  have hout' : ∀ i, (⟨T.aS, i⟩ : Loc) ∉ locs := fun i hmem => by
    have := hlocs _ hmem cellS0 hcS0
    rw [hiss] at this; cases this
  have hknownS : cellS.vm ≠ .unknown := by
    rw [heS]; intro hu
    rw [show cellS0.vm = .unknown from hu] at hiss
    cases hiss
  have hneS : T.aS ≠ a := Nat.ne_of_lt (Nat.lt_of_lt_of_le (Array.getElem?_eq_some_iff.mp hcS0).1 hnew)
  obtain ⟨iM, hffM⟩ := Y.msg
  obtain ⟨tyC, dC, hdC, hdnC⟩ := Cond.laysAt hfound hk Y.cause (a' (.lays cls Bundle.tN "cause" "Ljava/lang/Throwable;") (by simp [Bundle.ownAtoms0]))
  obtain ⟨tyS, dS, hdS, hdnS⟩ := Cond.laysAt hfound hk Y.stack (a' (.lays cls Bundle.tN "stackTrace" Bundle.steD) (by simp [Bundle.ownAtoms0]))
  obtain ⟨tyP, dP, hdP, hdnP⟩ := Cond.laysAt hfound hk Y.supp (a' (.lays cls Bundle.tN "suppressedExceptions" Bundle.listD) (by simp [Bundle.ownAtoms0]))
  obtain ⟨tyM, dM, hdM, hdnM⟩ := Cond.laysAt hfound hk hffM (a' (.lays cls Bundle.tN "detailMessage" "Ljava/lang/String;") (by simp [Bundle.ownAtoms0]))
  obtain ⟨tyB, dB, hdB, hdnB⟩ := Cond.laysAt hfound hk hffB (a' (.lays cls Bundle.tN "backtrace" "Ljava/lang/Object;") (by simp [Bundle.ownAtoms0]))
  have bC := Cond.laysApart hdB hdC hdnB hdnC (by rw [hnB, Y.causeName]; decide)
  have bS := Cond.laysApart hdB hdS hdnB hdnS (by rw [hnB, Y.stackName]; decide)
  have bP := Cond.laysApart hdB hdP hdnB hdnP (by rw [hnB, Y.suppName]; decide)
  have hskip : SkipFacts T e.platform s (fun u => u) u0 ((preparedCellV T.toThrowableT (freshCell P1.m.cls kX) a u0 sen).withEntry W.cur) :=
    ⟨{ ci198 := ci198, i198 := i198, fBack := fB }, ⟨hk198, hg198, ha198, hsB⟩, by
      have := fresh_default (c := P1.m.cls) tyB
      rw [htB] at this
      simpa [preparedCellV, Cell.setSlot, Cell.withEntry, Array.getElem?_setIfInBounds, bC, bS, bP, bC.symm, bS.symm, bP.symm, defaultValue] using this, fun _ _ => rfl⟩
  obtain ⟨tm, methC, cdC, kC, vm₁, hnC, -, -, -, -, -, -, -, hW₁, st1⟩ := Steps.initCold (tb := p.tables) (e := e) (below := below) (s := s) (U := W) X.here hexec X.warmed hpl hown (t := Bundle.init0 cls) rfl rfl (Bundle.fit_spec hcls).2
    (a' (.methodLink own ic (Bundle.init0 cls)) (by simp [Bundle.ownAtoms0])) (h (.instanceMethod (Bundle.init0 cls)) (by cases names <;> simp [Bundle.ownAtoms0, Bundle.chain0Atoms, Bundle.passAtoms])) (bytes := Bundle.five) (maxL := 1) (h (.code (Bundle.init0 cls) Bundle.five 1 none) (by cases names <;> simp [Bundle.ownAtoms0, Bundle.chain0Atoms, Bundle.passAtoms]))
    (f := g) hg (a := a) (rest := .ref a :: rest) hstack hd6
  cases Option.some.inj (hnC.symm.trans hP1m)
  have X₁ := X.noted hW₁
  obtain ⟨vm₂, X₂, st2⟩ := X₁.ctorPlainOffV hexec (g := { g with stack := .ref a :: rest }) hg hsize T L Z LZ (P1 :: Ps)
    (fun P hP => by rcases List.mem_cons.mp hP with rfl | hP; exact L1; exact hL P hP) ⟨hlink1, hlink⟩ (u0 := u0) (sen := sen) (self := a) (cell := freshCell P1.m.cls kX) (cellS := cellS)
    hcell (fun _ => by simp) (by simp) rfl rfl hsel0 hselF hcellS hneS hknownS (by rw [hkeep _ (hout' _)]; exact hu0) (by rw [hkeep _ (hout' _)]; exact hsen)
    (Takes.of_laid hk hord tyC (by rw [Y.causeType]; rfl)) (Takes.of_laid hk hord tyS (by rw [Y.stackType]; exact fits_refV_array _ u0)) (Takes.of_laid hk hord tyP (by rw [Y.suppType]; exact fits_refV_object _ sen)) Y.objLocals hskip htr [] hd6
    (by simp only [List.length_cons, hlen]; omega) (by simp only [List.length_cons, hlen]; exact hRlocals)
  have hlt : a < ((W.setVm vm₁).setVm vm₂).heap.size := (Array.getElem?_eq_some_iff.mp hcell).1
  refine ⟨(W.setVm vm₁).setVm vm₂, _, _, X₂, fun y hy => ?_, hlt, rfl, rfl, fun target hwalk => st1 _ (fun acts => ?_)⟩
  · simp only [List.mem_cons, List.not_mem_nil, or_false] at hy
    rcases hy with rfl | rfl | rfl | rfl <;> rfl
  · rw [doInvoke_state]
    exact st2 _ hwalk
end VXK
section VXK2
variable {p : Program} {l : Launch} {e : Env} {R : Room} {s : State} {m : MethodId} {args : Array Value} {below : List Frame} {meth : Method} {c : Code} {H : Heap} {locs : List Loc} {cells slots : Nat} {Q : State → Prop}
variable {ls : Array Slot} {rest : List Value} {D : va_G} {cl : List vw_C} {tys : List (ClassId × FieldType)} {ws : va_W}
/-- 'new E("text")' that isn't thrown at once: the object goes on the stack -/
theorem vx_makeS {cc : ByteArray} {pc : Nat} (hexec : p.tables.exec = Jvm.exec) (hb : c.code = cc) (hl : l.stackTraces = false) {own cls text : String} {names : List String} {ik is ic sa ci : Nat} {A : Nat → Prop} {T0 : u_T}
    (hown : s.vm.findClass own = some m.cls) (hcls : Bundle.fit cls = true) (hnames : ∀ n ∈ names, Bundle.fit n = true)
    (hk : (Cond.classLink own ik cls).before args s = true) (hini : (Cond.initialized cls).before args s = true) (hstr : vk_R own is text sa s) (hat : ∀ w ∈ vx_atS own ic cls names, w.before args s = true)
    (hgood : ∀ w ∈ Cond.classLink own ik cls :: Cond.initialized cls :: vx_atS own ic cls names, vx_ot w = true)
    (hU : vx_Zq Bundle.tN "UNASSIGNED_STACK" Bundle.steD A s s.heap) (hN : vx_Zq Bundle.tN "SUPPRESSED_SENTINEL" Bundle.listD A s s.heap) (hS : va_S A s.heap H locs) (hsize : ls.size = c.maxLocals)
    (d0 : decode cc pc = .ok (.new ik, 3)) (d3 : decode cc (pc + 3) = .ok (.dup, 1)) (d4 : decode cc (pc + 4) = .ok (.ldc is, 2)) (d6 : decode cc (pc + 6) = .ok (.invokespecial ic, 3))
    (hK : va_K D cl tys s) (hP : va_P D cl ws H) (hD : va_D A ws) (hA : ∀ q, s.heap.size ≤ q → A q) (hc : cl[ci]? = some (cls, T0, 0))
    (hRframes : names.length + 3 < R.frames) (hRlocals : (rest.map fun v => v.category).sum + (13 * (names.length + 1) + 43) ≤ R.locals) (hRcells : cells + 1 ≤ R.cells) (hRslots : slots + 6 ≤ R.slots)
    (kk : ∀ (q : Nat) (H1 : Heap), va_P D cl (ws ++ [(q, .inr (ci, []))]) H1 → va_D A (ws ++ [(q, .inr (ci, []))]) → va_S A s.heap H1 locs → W p l e R s m args below meth c H1 locs (cells + 1) (slots + 6) Q (F0 m (pc + 9) ls (.ref q :: rest))) :
    W p l e R s m args below meth c H locs cells slots Q (F0 m pc ls rest) := by
  intro T hT X
  subst hT
  have htr : e.platform.stackTraces = false := (show e.platform.stackTraces = l.stackTraces by rw [X.admits.platform]).trans hl
  have Y := vx_rebase X (R' := { frames := R.frames, locals := R.locals, cells := 1, slots := 6 }) (Nat.le_refl _) (Nat.le_refl _) hRcells hRslots
  obtain ⟨s', hA'⟩ : ∃ z, z = (T.setVm s.vm).setFrames (.invoking m args :: below) := ⟨_, rfl⟩
  rw [← hA'] at Y
  have hvm : s'.vm = s.vm := by rw [hA']; rfl
  have hhp : s'.heap = T.heap := by rw [hA']; rfl
  have hW0 : s.WarmedH s'.vm := by rw [hvm]; exact State.WarmedH.refl s
  have hat' : ∀ w ∈ vx_atS own ic cls names, w.before args s' = true := fun w hw => vx_ot_at hW0 hvm.symm (hgood w (List.mem_cons_of_mem _ (List.mem_cons_of_mem _ hw))) (hat w hw)
  have hk' : (Cond.classLink own ik cls).before args s' = true := vx_ot_at hW0 hvm.symm (hgood _ List.mem_cons_self) hk
  have hini' : (Cond.initialized cls).before args s' = true := vx_ot_at hW0 hvm.symm (hgood _ (List.mem_cons_of_mem _ List.mem_cons_self)) hini
  have hU' : vx_Zq Bundle.tN "UNASSIGNED_STACK" Bundle.steD A s' s'.heap := by rw [hhp]; exact vx_Zq.moved hW0.alike (hU.kept hS.2.1)
  have hN' : vx_Zq Bundle.tN "SUPPRESSED_SENTINEL" Bundle.listD A s' s'.heap := by rw [hhp]; exact vx_Zq.moved hW0.alike (hN.kept hS.2.1)
  have h : ∀ w ∈ Bundle.ownAtoms own ic cls names, w.before args s' = true := vx_own hat' (vx_isRefq hU'.1) (vx_isRefq hN'.1) hU'.2.word hN'.2.word
  have hown' : s'.vm.findClass own = some m.cls := by rw [hvm]; exact hown
  have hins : (Cond.instantiable cls 6).before args s' = true := h _ (by simp [Bundle.ownAtoms])
  obtain ⟨vm₁, cX, kX, hfX, hkX, -, -, X₁, st1⟩ := Y.newCold hexec (own := own) (C := cls) (index := ik) (n := 6) hown' hk' hins hini'
    (g := F0 m pc ls rest) rfl (by rw [hb]; exact d0) (Nat.le_refl _) (Nat.le_refl _)
  generalize hT1 : (T.setVm vm₁).pushCell { cls := cX, slots := kX.instanceTypes.map defaultValue, vm := .none } = T1 at X₁ st1
  have hcat : (Value.ref T.heap.size).category = 1 := rfl
  have hcellA : T1.heap[T.heap.size]? = some (freshCell cX kX) := by rw [← hT1]; exact State.heap_pushCell_size _ _
  have d3' : decode c.code (pc + 3) = .ok (.dup, 1) := by rw [hb]; exact d3
  have d4' : decode c.code (pc + 4) = .ok (.ldc is, 2) := by rw [hb]; exact d4
  have hstr' : vk_R own is text sa s' := vk_R.warm hW0 hstr
  obtain ⟨V, ce, L, Z, hL, hlt, hcl9, hvm9, st⟩ := vx_ctorMadeS X₁ hexec htr (own := own) (cls := cls) (names := names) (ic := ic) hown' hcls hnames h (fun x hx => nomatch hx) hfX hkX hcellA (by rw [hhp]; exact Nat.le_refl _) (msg := .ref sa) rfl
    (g := { method := m, pc := pc + 6, locals := ls, stack := .ref sa :: .ref T.heap.size :: .ref T.heap.size :: rest, locked := none }) rfl hsize (rest := rest) rfl
    (by rw [hb]; exact d6) hRframes (by simp only [List.map_cons, List.sum_cons, hcat]; omega)
  have Z0 := Stand.forget (locs := []) Z (fun y hy => by rw [hL y hy, hhp]; exact Nat.le_refl _)
  obtain ⟨f1, f2⟩ := vx_frame Z0.same
  rw [hhp] at f1 f2
  have hcid : ce.cls = D.1 ci := by
    rw [hcl9]
    have h1 := (hK.1 ci _ hc).2.1
    rw [hvm] at hfX
    exact Option.some.inj (hfX.symm.trans h1)
  have hh : (V.setCell T.heap.size ce).heap[T.heap.size]? = some ce := heapAt_setCell_self (s := V) ce hlt
  subst hA'
  have X5 := vx_back9 X Y Z0
  have X6 : Stand p l e R s m args below meth c (V.setCell T.heap.size ce) locs (cells + 1) (slots + 6) := { X5 with same := X5.same.mono (by omega) (by omega) }
  have hk9 : ∀ (k : Nat) (x : Nat × va_E), ws[k]? = some x → (V.setCell T.heap.size ce).heap[x.1]? = T.heap[x.1]? := fun k x hx => f2 x.1 ((hP k x hx).lt) (fun z hz => nomatch hz)
  obtain ⟨t, a1, b1⟩ := kk T.heap.size (V.setCell T.heap.size ce).heap ((hP.kept hk9).app (fun k x hx => by
      have hz : k < 1 := (List.getElem?_eq_some_iff.mp hx).1
      rw [show k = 0 by omega] at hx
      cases hx
      exact ⟨_, hc, ce, hh, hcid, hvm9, fun k hk => absurd hk (Nat.not_lt_zero k)⟩)) (hD.push hP rfl (hA _ hS.1)) ⟨Nat.le_trans hS.1 f1, fun q h1 h2 => (f2 q (Nat.lt_of_lt_of_le h1 hS.1) (fun z hz => nomatch hz)).trans (hS.2.1 q h1 h2), hS.2.2⟩ _ rfl X6
  refine ⟨t, st1 _ ?_, b1⟩
  show Steps p.tables e below (T1.setTop { method := m, pc := pc + 3, locals := ls, stack := .ref T.heap.size :: rest, locked := none }) _
  jvm_step X₁.here [X₁.here.top, hexec, d3', Value.category]
  exact X₁.ldcString hexec (own := own) (text := text) (index := is) (a := sa) hown' hstr'.1 hstr'.2
    (g := { method := m, pc := pc + 4, locals := ls, stack := .ref T.heap.size :: .ref T.heap.size :: rest, locked := none }) rfl d4' _ (st _ a1)
/-- 'new E()' that isn't thrown at once: the object goes on the stack -/
theorem vx_make0 {cc : ByteArray} {pc : Nat} (hexec : p.tables.exec = Jvm.exec) (hb : c.code = cc) (hl : l.stackTraces = false) {own cls : String} {names : List String} {ik ic ci : Nat} {A : Nat → Prop} {T0 : u_T}
    (hown : s.vm.findClass own = some m.cls) (hcls : Bundle.fit cls = true) (hnames : ∀ n ∈ names, Bundle.fit n = true)
    (hk : (Cond.classLink own ik cls).before args s = true) (hini : (Cond.initialized cls).before args s = true) (hat : ∀ w ∈ vx_at0 own ic cls names, w.before args s = true)
    (hgood : ∀ w ∈ Cond.classLink own ik cls :: Cond.initialized cls :: vx_at0 own ic cls names, vx_ot w = true)
    (hU : vx_Zq Bundle.tN "UNASSIGNED_STACK" Bundle.steD A s s.heap) (hN : vx_Zq Bundle.tN "SUPPRESSED_SENTINEL" Bundle.listD A s s.heap) (hS : va_S A s.heap H locs) (hsize : ls.size = c.maxLocals)
    (d0 : decode cc pc = .ok (.new ik, 3)) (d3 : decode cc (pc + 3) = .ok (.dup, 1)) (d4 : decode cc (pc + 4) = .ok (.invokespecial ic, 3))
    (hK : va_K D cl tys s) (hP : va_P D cl ws H) (hD : va_D A ws) (hA : ∀ q, s.heap.size ≤ q → A q) (hc : cl[ci]? = some (cls, T0, 0))
    (hRframes : names.length + 3 < R.frames) (hRlocals : (rest.map fun v => v.category).sum + (13 * (names.length + 1) + 42) ≤ R.locals) (hRcells : cells + 1 ≤ R.cells) (hRslots : slots + 6 ≤ R.slots)
    (kk : ∀ (q : Nat) (H1 : Heap), va_P D cl (ws ++ [(q, .inr (ci, []))]) H1 → va_D A (ws ++ [(q, .inr (ci, []))]) → va_S A s.heap H1 locs → W p l e R s m args below meth c H1 locs (cells + 1) (slots + 6) Q (F0 m (pc + 7) ls (.ref q :: rest))) :
    W p l e R s m args below meth c H locs cells slots Q (F0 m pc ls rest) := by
  intro T hT X
  subst hT
  have htr : e.platform.stackTraces = false := (show e.platform.stackTraces = l.stackTraces by rw [X.admits.platform]).trans hl
  have Y := vx_rebase X (R' := { frames := R.frames, locals := R.locals, cells := 1, slots := 6 }) (Nat.le_refl _) (Nat.le_refl _) hRcells hRslots
  obtain ⟨s', hA'⟩ : ∃ z, z = (T.setVm s.vm).setFrames (.invoking m args :: below) := ⟨_, rfl⟩
  rw [← hA'] at Y
  have hvm : s'.vm = s.vm := by rw [hA']; rfl
  have hhp : s'.heap = T.heap := by rw [hA']; rfl
  have hW0 : s.WarmedH s'.vm := by rw [hvm]; exact State.WarmedH.refl s
  have hat' : ∀ w ∈ vx_at0 own ic cls names, w.before args s' = true := fun w hw => vx_ot_at hW0 hvm.symm (hgood w (List.mem_cons_of_mem _ (List.mem_cons_of_mem _ hw))) (hat w hw)
  have hk' : (Cond.classLink own ik cls).before args s' = true := vx_ot_at hW0 hvm.symm (hgood _ List.mem_cons_self) hk
  have hini' : (Cond.initialized cls).before args s' = true := vx_ot_at hW0 hvm.symm (hgood _ (List.mem_cons_of_mem _ List.mem_cons_self)) hini
  have hU' : vx_Zq Bundle.tN "UNASSIGNED_STACK" Bundle.steD A s' s'.heap := by rw [hhp]; exact vx_Zq.moved hW0.alike (hU.kept hS.2.1)
  have hN' : vx_Zq Bundle.tN "SUPPRESSED_SENTINEL" Bundle.listD A s' s'.heap := by rw [hhp]; exact vx_Zq.moved hW0.alike (hN.kept hS.2.1)
  have h : ∀ w ∈ Bundle.ownAtoms0 own ic cls names, w.before args s' = true := vx_own hat' (vx_isRefq hU'.1) (vx_isRefq hN'.1) hU'.2.word hN'.2.word
  have hown' : s'.vm.findClass own = some m.cls := by rw [hvm]; exact hown
  have hins : (Cond.instantiable cls 6).before args s' = true := h _ (by simp [Bundle.ownAtoms0])
  obtain ⟨vm₁, cX, kX, hfX, hkX, -, -, X₁, st1⟩ := Y.newCold hexec (own := own) (C := cls) (index := ik) (n := 6) hown' hk' hins hini'
    (g := F0 m pc ls rest) rfl (by rw [hb]; exact d0) (Nat.le_refl _) (Nat.le_refl _)
  generalize hT1 : (T.setVm vm₁).pushCell { cls := cX, slots := kX.instanceTypes.map defaultValue, vm := .none } = T1 at X₁ st1
  have hcat : (Value.ref T.heap.size).category = 1 := rfl
  have hcellA : T1.heap[T.heap.size]? = some (freshCell cX kX) := by rw [← hT1]; exact State.heap_pushCell_size _ _
  have d3' : decode c.code (pc + 3) = .ok (.dup, 1) := by rw [hb]; exact d3
  obtain ⟨V, ce, L, Z, hL, hlt, hcl9, hvm9, st⟩ := vx_ctorMade0 X₁ hexec htr (own := own) (cls := cls) (names := names) (ic := ic) hown' hcls hnames h (fun x hx => nomatch hx) hfX hkX hcellA (by rw [hhp]; exact Nat.le_refl _)
    (g := { method := m, pc := pc + 4, locals := ls, stack := .ref T.heap.size :: .ref T.heap.size :: rest, locked := none }) rfl hsize (rest := rest) rfl
    (by rw [hb]; exact d4) hRframes (by simp only [List.map_cons, List.sum_cons, hcat]; omega)
  have Z0 := Stand.forget (locs := []) Z (fun y hy => by rw [hL y hy, hhp]; exact Nat.le_refl _)
  obtain ⟨f1, f2⟩ := vx_frame Z0.same
  rw [hhp] at f1 f2
  have hcid : ce.cls = D.1 ci := by
    rw [hcl9]
    have h1 := (hK.1 ci _ hc).2.1
    rw [hvm] at hfX
    exact Option.some.inj (hfX.symm.trans h1)
  have hh : (V.setCell T.heap.size ce).heap[T.heap.size]? = some ce := heapAt_setCell_self (s := V) ce hlt
  subst hA'
  have X5 := vx_back9 X Y Z0
  have X6 : Stand p l e R s m args below meth c (V.setCell T.heap.size ce) locs (cells + 1) (slots + 6) := { X5 with same := X5.same.mono (by omega) (by omega) }
  have hk9 : ∀ (k : Nat) (x : Nat × va_E), ws[k]? = some x → (V.setCell T.heap.size ce).heap[x.1]? = T.heap[x.1]? := fun k x hx => f2 x.1 ((hP k x hx).lt) (fun z hz => nomatch hz)
  obtain ⟨t, a1, b1⟩ := kk T.heap.size (V.setCell T.heap.size ce).heap ((hP.kept hk9).app (fun k x hx => by
      have hz : k < 1 := (List.getElem?_eq_some_iff.mp hx).1
      rw [show k = 0 by omega] at hx
      cases hx
      exact ⟨_, hc, ce, hh, hcid, hvm9, fun k hk => absurd hk (Nat.not_lt_zero k)⟩)) (hD.push hP rfl (hA _ hS.1)) ⟨Nat.le_trans hS.1 f1, fun q h1 h2 => (f2 q (Nat.lt_of_lt_of_le h1 hS.1) (fun z hz => nomatch hz)).trans (hS.2.1 q h1 h2), hS.2.2⟩ _ rfl X6
  refine ⟨t, st1 _ ?_, b1⟩
  show Steps p.tables e below (T1.setTop { method := m, pc := pc + 3, locals := ls, stack := .ref T.heap.size :: rest, locked := none }) _
  jvm_step X₁.here [X₁.here.top, hexec, d3', Value.category]
  exact st _ a1
/-- 'throw x' of an object that was made before -/
theorem vx_athrow {cc : ByteArray} {pc : Nat} (hexec : p.tables.exec = Jvm.exec) (hb : c.code = cc) {q : Addr} (hdg : decode cc pc = .ok (.athrow, 1)) (k : vx_W p l e R s m args below meth c H locs cells slots Q (F0 m pc ls rest) q) : W p l e R s m args below meth c H locs cells slots Q (F0 m pc ls (.ref q :: rest)) := by
  intro T hT X
  obtain ⟨t, st, hq⟩ := k T hT X
  refine ⟨t, ?_, hq⟩
  have hdg' : decode c.code pc = .ok (.athrow, 1) := by rw [hb]; exact hdg
  jvm_step X.here [X.here.top, hexec, hdg', athrow.wp_sem]
  exact st
end VXK2
/-! ===== END ===== -/
/-! ===== BEGIN a constructor that throws (launches without stack traces) ===== -/
section VXIA
variable {p : Program} {l : Launch} {e : Env} {R : Room} {s : State} {m : MethodId} {args : Array Value} {below : List Frame} {meth : Method} {c : Code} {T : State} {locs : List Loc} {cells slots : Nat}
theorem vx_callI (X : Stand p l e R s m args below meth c T locs cells slots) (hexec : p.tables.exec = Jvm.exec) {own : String} {index : Nat} {y : MethodName} {bytes : ByteArray} {maxL : Nat}
    (hown : s.vm.findClass own = some m.cls) (hy1 : y.name = "<init>") (hlink : (Cond.methodLink own index y).before args s = true) (hinst : (Cond.instanceMethod y).before args s = true)
    (hcode : (Cond.code y bytes maxL none).before args s = true) (hy : y.cls ≠ "java/lang/invoke/MethodHandle" ∧ y.cls ≠ "java/lang/invoke/VarHandle")
    {W9 : Nat} {Pre : Pt → Array Value → Prop} {Post : Pt → Array Value → Option Value → Pt → Prop} {PostX : Pt → Array Value → Addr → Pt → Prop} (hK : vx_Back l R p e below s args y 3 W9 Pre Post PostX)
    {g : JFrame} (hg : g.method = m) (hsize : g.locals.size = c.maxLocals) {a : Addr} {argsL rest : List Value} (hlen : ∀ sig, parseMethodDescriptor y.desc = some sig → argsL.length = sig.parameters.length)
    (hstack : g.stack = argsL.reverse ++ .ref a :: rest) (hW : 2 * g.monitorRoom + (rest.map fun v => v.category).sum ≤ W9) (hdg : decode c.code g.pc = .ok (.invokespecial index, 3))
    (hpre : ∀ vm₁, s.WarmedH vm₁ → Pre ⟨T.setVm vm₁, locs, cells, slots⟩ (Value.ref a :: argsL).toArray) :
    (∃ (v : Option Value) (vm₁ : Vm) (B : Pt), s.WarmedH vm₁ ∧ Stand p l e R s m args below meth c B.U B.locs B.cells B.slots ∧ Post ⟨T.setVm vm₁, locs, cells, slots⟩ (Value.ref a :: argsL).toArray v B ∧
      ∀ target, Steps p.tables e below (B.U.setTop { g with pc := g.pc + 3, stack := v.toList ++ rest }) target → Steps p.tables e below (T.setTop g) target) ∨
    (∃ (q : Addr) (vm₁ : Vm) (B : Pt), s.WarmedH vm₁ ∧ Stand p l e R s m args below meth c B.U B.locs B.cells B.slots ∧ PostX ⟨T.setVm vm₁, locs, cells, slots⟩ (Value.ref a :: argsL).toArray q B ∧
      Steps p.tables e below (T.setTop g) ((B.U.setTop { g with stack := rest }).pushFrame (.throwing q))) := by
  subst hg
  have hpl : e.platform.magicAccessors = ({} : Platform).magicAccessors := by rw [X.admits.platform]
  obtain ⟨mk, methM, cM, kP, vm₁, hnamed, hmethM, hcodeM, -, hlocalsM, -, hkP, -, hW₁, hstep₁⟩ := Steps.initColdArgs (e := e) X.here hexec X.warmed hpl hown hy1 hy hlink hinst hcode (f := g) rfl hlen hstack hdg
  have X₁ := X.noted hW₁
  rcases hK g.method meth c ⟨T.setVm vm₁, locs, cells, slots⟩ { g with stack := rest } (.invokespecial index) mk (Value.ref a :: argsL).toArray X₁ rfl hsize hdg hW (X₁.named hnamed) (hpre vm₁ X₁.warmed) with ⟨v, B, X', hpost, hsteps⟩ | ⟨q, B, X', hpost, hsteps⟩
  · exact Or.inl ⟨v, vm₁, B, X₁.warmed, X', hpost, fun target h => hstep₁ _ fun acts => by rw [doInvoke_state]; exact hsteps.trans h⟩
  · exact Or.inr ⟨q, vm₁, B, X₁.warmed, X', hpost, hstep₁ _ fun acts => by rw [doInvoke_state]; exact hsteps⟩
end VXIA
section VXIB
variable {p : Program} {l : Launch} {e : Env} {R : Room} {s : State} {m : MethodId} {args : Array Value} {below : List Frame} {meth : Method} {c : Code} {H : Heap} {locs : List Loc} {cells slots : Nat}
variable {y : MethodName} {bytes cc : ByteArray} {maxL nL mc ms n index : Nat} {ret : Option FieldType} {ws : List Cond} {rm : Room} {Pc : Array Value → State → Prop} {Qc : Array Value → State → Outcome → State → Prop} {XC : String → State → State → Prop} {free : Addr → Prop} {Ts : List Cond} {own C : String} {b : Addr} {As rest : List Value} {g : JFrame}
theorem vx_runI (S : CallFix p m c cc nL s args Ts own) (hM : vx_Met l y ws rm Pc Qc XC mc ms free) (cw : CallB R s args own index y bytes maxL none ws rm mc ms n ∧ y.name = "<init>" ∧ (Cond.instanceMethod y).before args s = true) (hp : PreS s H Pc (.ref b :: As))
    (hg : g.method = m) (hn : As.length = n) (hsize : g.locals.size = nL) (hstack : g.stack = As.reverse ++ .ref b :: rest) (hW : 2 * g.monitorRoom + (rest.map fun v => v.category).sum ≤ 8) (hdg : decode cc g.pc = .ok (.invokespecial index, 3)) (hf : cells + mc ≤ R.cells ∧ slots + ms ≤ R.slots) :
    vx_Run p l e R s m args below meth c H locs cells slots mc ms g rest (Qc (Value.ref b :: As).toArray) XC free := by
  have hK : vx_Back l R p e below s args y 3 8 (PreOf R mc ms Pc) (PostOf Qc mc ms free) (vx_Post XC mc ms free) := vx_callBack cw.1 hM hp.1
  obtain ⟨⟨-, -, -, -, -, -, hcode, -, hy, hlen, hl⟩, hy1, hin⟩ := cw
  obtain ⟨hx, hb, hml, ho, -⟩ := S
  have hPc := hp.2
  intro T hT X
  rcases vx_callI X hx (bytes := bytes) (maxL := maxL) ho hy1 hl hin hcode hy hK hg (hsize.trans hml.symm) (a := b) (argsL := As) (rest := rest) (fun sig h => hn.trans (hlen sig h)) hstack hW (by rw [hb]; exact hdg)
    (fun vm₁ hW₁ => ⟨hf.1, hf.2, hPc (T.setVm vm₁) hT hW₁⟩) with ⟨v, vm₁, ⟨U', l2, c2, s2⟩, hW₁, X', ⟨g', mk, t, L, e1, e2, hq, h1, hL, h2, h3⟩, st⟩ | ⟨q, vm₁, ⟨U', l2, c2, s2⟩, hW₁, X', ⟨g', mk, t, L, E, ce, e1, e2, hq, hce, hcv, hcl, h1, hL, h2, h3⟩, st⟩
  · dsimp only [Pt.U, Pt.locs, Pt.cells, Pt.slots] at X' e1 e2 h1 h2 h3 st
    subst h1; subst h2; subst h3
    exact Or.inl ⟨v, (T.setVm vm₁).calling g' mk (Value.ref b :: As).toArray, t, U', L, hT, X', hL, e1, e2, hq, st⟩
  · dsimp only [Pt.U, Pt.locs, Pt.cells, Pt.slots] at X' e1 e2 h1 h2 h3 st hcl
    subst h1; subst h2; subst h3
    exact Or.inr ⟨q, (T.setVm vm₁).calling g' mk (Value.ref b :: As).toArray, t, U', L, E, ce, hT, X', hL, e1, e2, hq, hce, hcv, vx_cls hW₁ hcl, st⟩
end VXIB
/-! ===== END ===== -/
/-! ===== BEGIN a private constructor of a nest mate that throws ===== -/
section VXIC
variable {p : Program} {l : Launch} {e : Env} {R : Room} {s : State} {m : MethodId} {args : Array Value} {below : List Frame} {meth : Method} {c : Code} {T : State} {locs : List Loc} {cells slots : Nat}
theorem vx_callIN (X : Stand p l e R s m args below meth c T locs cells slots) (hexec : p.tables.exec = Jvm.exec) {own : String} {index : Nat} {host : String} {y : MethodName} {bytes : ByteArray} {maxL : Nat}
    (hown : s.vm.findClass own = some m.cls) (hy1 : y.name = "<init>") (hlink : (Cond.methodLinkNest own index y host).before args s = true) (hinst : (Cond.instanceMethod y).before args s = true)
    (hcode : (Cond.code y bytes maxL none).before args s = true) (hy : y.cls ≠ "java/lang/invoke/MethodHandle" ∧ y.cls ≠ "java/lang/invoke/VarHandle")
    {W9 : Nat} {Pre : Pt → Array Value → Prop} {Post : Pt → Array Value → Option Value → Pt → Prop} {PostX : Pt → Array Value → Addr → Pt → Prop} (hK : vx_Back l R p e below s args y 3 W9 Pre Post PostX)
    {g : JFrame} (hg : g.method = m) (hsize : g.locals.size = c.maxLocals) {a : Addr} {argsL rest : List Value} (hlen : ∀ sig, parseMethodDescriptor y.desc = some sig → argsL.length = sig.parameters.length)
    (hstack : g.stack = argsL.reverse ++ .ref a :: rest) (hW : 2 * g.monitorRoom + (rest.map fun v => v.category).sum ≤ W9) (hdg : decode c.code g.pc = .ok (.invokespecial index, 3))
    (hpre : ∀ vm₁, s.WarmedH vm₁ → Pre ⟨T.setVm vm₁, locs, cells, slots⟩ (Value.ref a :: argsL).toArray) :
    (∃ (v : Option Value) (vm₁ : Vm) (B : Pt), s.WarmedH vm₁ ∧ Stand p l e R s m args below meth c B.U B.locs B.cells B.slots ∧ Post ⟨T.setVm vm₁, locs, cells, slots⟩ (Value.ref a :: argsL).toArray v B ∧
      ∀ target, Steps p.tables e below (B.U.setTop { g with pc := g.pc + 3, stack := v.toList ++ rest }) target → Steps p.tables e below (T.setTop g) target) ∨
    (∃ (q : Addr) (vm₁ : Vm) (B : Pt), s.WarmedH vm₁ ∧ Stand p l e R s m args below meth c B.U B.locs B.cells B.slots ∧ PostX ⟨T.setVm vm₁, locs, cells, slots⟩ (Value.ref a :: argsL).toArray q B ∧
      Steps p.tables e below (T.setTop g) ((B.U.setTop { g with stack := rest }).pushFrame (.throwing q))) := by
  subst hg
  have hpl : e.platform.magicAccessors = ({} : Platform).magicAccessors := by rw [X.admits.platform]
  obtain ⟨mk, methM, cM, kP, vm₁, hnamed, hmethM, hcodeM, -, hlocalsM, -, hkP, -, hW₁, hstep₁⟩ := Steps.initColdArgsNest (e := e) X.here hexec X.warmed hpl hown hy1 hy hlink hinst hcode (f := g) rfl hlen hstack hdg
  have X₁ := X.noted hW₁
  rcases hK g.method meth c ⟨T.setVm vm₁, locs, cells, slots⟩ { g with stack := rest } (.invokespecial index) mk (Value.ref a :: argsL).toArray X₁ rfl hsize hdg hW (X₁.named hnamed) (hpre vm₁ X₁.warmed) with ⟨v, B, X', hpost, hsteps⟩ | ⟨q, B, X', hpost, hsteps⟩
  · exact Or.inl ⟨v, vm₁, B, X₁.warmed, X', hpost, fun target h => hstep₁ _ fun acts => by rw [doInvoke_state]; exact hsteps.trans h⟩
  · exact Or.inr ⟨q, vm₁, B, X₁.warmed, X', hpost, hstep₁ _ fun acts => by rw [doInvoke_state]; exact hsteps⟩
end VXIC
section VXID
variable {p : Program} {l : Launch} {e : Env} {R : Room} {s : State} {m : MethodId} {args : Array Value} {below : List Frame} {meth : Method} {c : Code} {H : Heap} {locs : List Loc} {cells slots : Nat}
theorem vx_runIN {y : MethodName} {bytes cc : ByteArray} {maxL nL mc ms n index : Nat} {ws : List Cond} {rm : Room} {Pc : Array Value → State → Prop} {Qc : Array Value → State → Outcome → State → Prop} {XC : String → State → State → Prop} {free : Addr → Prop} {Ts : List Cond} {own host : String} {b : Addr} {As rest : List Value} {g : JFrame}
    (S : CallFix p m c cc nL s args Ts own) (hM : vx_Met l y ws rm Pc Qc XC mc ms free) (cw : va_CN R s args own index y host bytes maxL none ws rm mc ms n ∧ y.name = "<init>" ∧ (Cond.instanceMethod y).before args s = true) (hp : PreS s H Pc (.ref b :: As))
    (hg : g.method = m) (hn : As.length = n) (hsize : g.locals.size = nL) (hstack : g.stack = As.reverse ++ .ref b :: rest) (hW : 2 * g.monitorRoom + (rest.map fun v => v.category).sum ≤ 8) (hdg : decode cc g.pc = .ok (.invokespecial index, 3)) (hf : cells + mc ≤ R.cells ∧ slots + ms ≤ R.slots) :
    vx_Run p l e R s m args below meth c H locs cells slots mc ms g rest (Qc (Value.ref b :: As).toArray) XC free := by
  obtain ⟨⟨⟨hrc, hrs, hfr, hlo, hws, hcw⟩, hcode, hini, hy, hlen, hl⟩, hx1, hx2⟩ := cw
  have hK : vx_Back l R p e below s args y 3 8 (PreOf R mc ms Pc) (PostOf Qc mc ms free) (vx_Post XC mc ms free) := vx_back (bytes := bytes) (maxL := maxL) (ret := none) hM hp.1 hrc hrs hfr hlo hws hcw (fun a' U hW => word_at hW (Or.inl (by first | rfl | simp [Cond.onTables, Cond.keeps, Cond.steady])) hini)
  obtain ⟨hx, hb, hml, ho, -⟩ := S
  have hPc := hp.2
  intro T hT X
  rcases vx_callIN X hx (bytes := bytes) (maxL := maxL) ho hx1 hl hx2 hcode hy hK hg (hsize.trans hml.symm) (a := b) (argsL := As) (rest := rest) (fun sig h => hn.trans (hlen sig h)) hstack hW (by rw [hb]; exact hdg)
    (fun vm₁ hW₁ => ⟨hf.1, hf.2, hPc (T.setVm vm₁) hT hW₁⟩) with ⟨v, vm₁, ⟨U', l2, c2, s2⟩, hW₁, X', ⟨g', mk, t, L, e1, e2, hq, h1, hL, h2, h3⟩, st⟩ | ⟨q, vm₁, ⟨U', l2, c2, s2⟩, hW₁, X', ⟨g', mk, t, L, E, ce, e1, e2, hq, hce, hcv, hcl, h1, hL, h2, h3⟩, st⟩
  · dsimp only [Pt.U, Pt.locs, Pt.cells, Pt.slots] at X' e1 e2 h1 h2 h3 st
    subst h1; subst h2; subst h3
    exact Or.inl ⟨v, (T.setVm vm₁).calling g' mk (Value.ref b :: As).toArray, t, U', L, hT, X', hL, e1, e2, hq, st⟩
  · dsimp only [Pt.U, Pt.locs, Pt.cells, Pt.slots] at X' e1 e2 h1 h2 h3 st hcl
    subst h1; subst h2; subst h3
    exact Or.inr ⟨q, (T.setVm vm₁).calling g' mk (Value.ref b :: As).toArray, t, U', L, E, ce, hT, X', hL, e1, e2, hq, hce, hcv, vx_cls hW₁ hcl, st⟩
end VXID
/-! ===== END ===== -/
/-! ===== BEGIN a method of a class above, found by the receiver, that may throw (follows va_callVU, va_runU of this kit) ===== -/
section
variable {p : Program} {l : Launch} {e : Env} {R : Room} {s : State} {m : MethodId} {args : Array Value} {below : List Frame} {meth : Method} {c : Code} {H : Heap} {locs : List Loc} {cells slots : Nat}
theorem vx_callVU {T : State} {locs : List Loc} {cells slots : Nat} (X : Stand p l e R s m args below meth c T locs cells slots) (hexec : p.tables.exec = Jvm.exec) {own C owner : String} {index : Nat} {x y : MethodName} {bytes : ByteArray} {maxL : Nat} {ret : Option FieldType}
    (hown : s.vm.findClass own = some m.cls) (hlink : (Cond.methodLink own index x).before args s = true) (hsame : (Cond.sameMethod x.cls owner x.name x.desc).before args s = true)
    (hd0 : va_Decl s ⟨owner, x.name, x.desc⟩) (howner : owner ≠ "java/lang/invoke/MethodHandle" ∧ owner ≠ "java/lang/invoke/VarHandle")
    (hsel : (Cond.selects C x y).before args s = true) (hinst : (Cond.instanceMethod y).before args s = true) (hcode : (Cond.code y bytes maxL ret).before args s = true)
    {W : Nat} {Pre : Pt → Array Value → Prop} {Post : Pt → Array Value → Option Value → Pt → Prop} {PostX : Pt → Array Value → Addr → Pt → Prop} (hK : vx_Back l R p e below s args y 3 W Pre Post PostX)
    {b : Addr} {cellB : Cell} (hcell : T.heap[b]? = some cellB) (hobj : cellB.vm.isStatics = false) (hcls : s.vm.findClass C = some cellB.cls)
    {g : JFrame} (hg : g.method = m) (hsize : g.locals.size = c.maxLocals) {argsL rest : List Value} (hlen : ∀ sig, parseMethodDescriptor x.desc = some sig → argsL.length = sig.parameters.length)
    (hstack : g.stack = argsL.reverse ++ .ref b :: rest) (hW : 2 * g.monitorRoom + (rest.map fun v => v.category).sum ≤ W) (hdg : decode c.code g.pc = .ok (.invokevirtual index, 3))
    (hpre : ∀ vm₁, s.WarmedH vm₁ → Pre ⟨T.setVm vm₁, locs, cells, slots⟩ (Value.ref b :: argsL).toArray) :
    (∃ (v : Option Value) (vm₁ : Vm) (B : Pt), s.WarmedH vm₁ ∧ Stand p l e R s m args below meth c B.U B.locs B.cells B.slots ∧ Post ⟨T.setVm vm₁, locs, cells, slots⟩ (Value.ref b :: argsL).toArray v B ∧
      ∀ target, Steps p.tables e below (B.U.setTop { g with pc := g.pc + 3, stack := v.toList ++ rest }) target → Steps p.tables e below (T.setTop g) target) ∨
    (∃ (q : Addr) (vm₁ : Vm) (B : Pt), s.WarmedH vm₁ ∧ Stand p l e R s m args below meth c B.U B.locs B.cells B.slots ∧ PostX ⟨T.setVm vm₁, locs, cells, slots⟩ (Value.ref b :: argsL).toArray q B ∧
      Steps p.tables e below (T.setTop g) ((B.U.setTop { g with stack := rest }).pushFrame (.throwing q))) := by
  obtain ⟨r0, r, hn, hrm, hstR, hsigR⟩ := hd0
  obtain ⟨cn, ck, r1, hcn, hck, hni, hf, hn1⟩ := Cond.sameMethod_found hsame
  cases hn.symm.trans hn1
  obtain ⟨mk, methM, hnamed, hmethM, -, habM⟩ := Cond.instanceMethod_spec hinst
  obtain ⟨c2, r2, m2, q1, q2, q3, q4, kP, hkP, hkPi⟩ := Cond.selects_spec hsel
  cases hcls.symm.trans q1
  cases hf.symm.trans q2
  cases hnamed.symm.trans q3
  have hselP : selectMethod e.platform s.vm cellB.cls r0 = .method mk := by rw [Launch.admits_selectMethod X.admits]; exact q4
  obtain ⟨vm₁, X₁, hstep₁⟩ := X.invokevirtualUp hexec hown hlink hsame howner hn hrm hstR (a := b) (cell := cellB) hcell
    (fun z h => by rw [h] at hobj; cases hobj) hselP hmethM habM hkP hkPi (g := g) hg (argsL := argsL) (rest := rest) (hlen _ hsigR) hstack hdg
  rcases hK m meth c ⟨T.setVm vm₁, locs, cells, slots⟩ { g with stack := rest } (.invokevirtual index) mk (Value.ref b :: argsL).toArray X₁ hg hsize hdg hW (X₁.named hnamed) (hpre vm₁ X₁.warmed) with ⟨v, B, X', hpost, hsteps⟩ | ⟨q, B, X', hpost, hsteps⟩
  · exact Or.inl ⟨v, vm₁, B, X₁.warmed, X', hpost, fun target h => hstep₁ _ fun acts => by rw [doInvoke_state]; exact hsteps.trans h⟩
  · exact Or.inr ⟨q, vm₁, B, X₁.warmed, X', hpost, hstep₁ _ fun acts => by rw [doInvoke_state]; exact hsteps⟩
theorem vx_runU {x y : MethodName} {bytes cc : ByteArray} {maxL nL mc ms n index : Nat} {ret : Option FieldType} {ws : List Cond} {rm : Room} {Pc : Array Value → State → Prop} {Qc : Array Value → State → Outcome → State → Prop} {XC : String → State → State → Prop} {free : Addr → Prop} {Ts : List Cond} {own C owner : String} {b : Addr} {As rest : List Value} {g : JFrame}
    (S : CallFix p m c cc nL s args Ts own) (hM : vx_Met l y ws rm Pc Qc XC mc ms free) (cw : va_CU R s args own C owner index x y bytes maxL ret ws rm mc ms n) (hp : PreV s H C b Pc As)
    (hg : g.method = m) (hn : As.length = n) (hsize : g.locals.size = nL) (hstack : g.stack = As.reverse ++ .ref b :: rest) (hW : 2 * g.monitorRoom + (rest.map fun v => v.category).sum ≤ 8) (hdg : decode cc g.pc = .ok (.invokevirtual index, 3)) (hf : cells + mc ≤ R.cells ∧ slots + ms ≤ R.slots) :
    vx_Run p l e R s m args below meth c H locs cells slots mc ms g rest (Qc (Value.ref b :: As).toArray) XC free := by
  obtain ⟨hrc, hrs, hfr, hlo, hws, hcw⟩ := cw.back
  have hini := cw.init
  have hK : vx_Back l R p e below s args y 3 8 (PreOf R mc ms Pc) (PostOf Qc mc ms free) (vx_Post XC mc ms free) := vx_back (bytes := bytes) (maxL := maxL) (ret := ret) hM hp.1 hrc hrs hfr hlo hws hcw (fun a' U hW => word_at hW (Or.inl (by first | rfl | simp [Cond.onTables, Cond.keeps, Cond.steady])) hini)
  obtain ⟨hx, hb, hml, ho, -⟩ := S
  obtain ⟨-, ⟨cellB, hcB, hoB, hclB⟩, hPc⟩ := hp
  intro T hT X
  rcases vx_callVU X hx (C := C) (owner := owner) (bytes := bytes) (maxL := maxL) (ret := ret) ho cw.link cw.same cw.decl cw.notMH cw.sel cw.inst cw.code hK (by rw [hT]; exact hcB) hoB hclB hg (hsize.trans hml.symm) (argsL := As) (rest := rest) (fun sig h => hn.trans (cw.len sig h)) hstack hW (by rw [hb]; exact hdg)
    (fun vm₁ hW₁ => ⟨hf.1, hf.2, hPc (T.setVm vm₁) hT hW₁⟩) with ⟨v, vm₁, ⟨U', l2, c2, s2⟩, hW₁, X', ⟨g', mk, t, L, e1, e2, hq, h1, hL, h2, h3⟩, st⟩ | ⟨q, vm₁, ⟨U', l2, c2, s2⟩, hW₁, X', ⟨g', mk, t, L, E, ce, e1, e2, hq, hce, hcv, hcl, h1, hL, h2, h3⟩, st⟩
  · dsimp only [Pt.U, Pt.locs, Pt.cells, Pt.slots] at X' e1 e2 h1 h2 h3 st
    subst h1; subst h2; subst h3
    exact Or.inl ⟨v, (T.setVm vm₁).calling g' mk (Value.ref b :: As).toArray, t, U', L, hT, X', hL, e1, e2, hq, st⟩
  · dsimp only [Pt.U, Pt.locs, Pt.cells, Pt.slots] at X' e1 e2 h1 h2 h3 st hcl
    subst h1; subst h2; subst h3
    exact Or.inr ⟨q, (T.setVm vm₁).calling g' mk (Value.ref b :: As).toArray, t, U', L, E, ce, hT, X', hL, e1, e2, hq, hce, hcv, vx_cls hW₁ hcl, st⟩
end
/-! ===== END ===== -/
/-! ===== BEGIN super.m(..) that may throw (follows va_callSU, va_runSU) ===== -/
section
variable {p : Program} {l : Launch} {e : Env} {R : Room} {s : State} {m : MethodId} {args : Array Value} {below : List Frame} {meth : Method} {c : Code} {H : Heap} {locs : List Loc} {cells slots : Nat}
theorem vx_callSU {T : State} {locs : List Loc} {cells slots : Nat} (X : Stand p l e R s m args below meth c T locs cells slots) (hexec : p.tables.exec = Jvm.exec) {own : String} {index : Nat} {y : MethodName} {bytes : ByteArray} {maxL : Nat} {ret : Option FieldType}
    (hown : s.vm.findClass own = some m.cls) (hlink : (Cond.methodLink own index y).before args s = true) (hsame : (Cond.sameMethod y.cls y.cls y.name y.desc).before args s = true) (hsup : (Cond.superclass own y.cls).before args s = true)
    (hinst : (Cond.instanceMethod y).before args s = true) (hcode : (Cond.code y bytes maxL ret).before args s = true) (hno : y.name ≠ "<init>")
    {W : Nat} {Pre : Pt → Array Value → Prop} {Post : Pt → Array Value → Option Value → Pt → Prop} {PostX : Pt → Array Value → Addr → Pt → Prop} (hK : vx_Back l R p e below s args y 3 W Pre Post PostX)
    {b : Addr} {cellB : Cell} {kB : Class} (hcell : T.heap[b]? = some cellB) (hobj : cellB.vm.isStatics = false) (hkB : s.vm.classes[cellB.cls]? = some kB)
    {g : JFrame} (hg : g.method = m) (hsize : g.locals.size = c.maxLocals) {argsL rest : List Value} (hlen : ∀ sig, parseMethodDescriptor y.desc = some sig → argsL.length = sig.parameters.length)
    (hstack : g.stack = argsL.reverse ++ .ref b :: rest) (hW : 2 * g.monitorRoom + (rest.map fun v => v.category).sum ≤ W) (hdg : decode c.code g.pc = .ok (.invokespecial index, 3))
    (hpre : ∀ vm₁, s.WarmedH vm₁ → Pre ⟨T.setVm vm₁, locs, cells, slots⟩ (Value.ref b :: argsL).toArray) :
    (∃ (v : Option Value) (vm₁ : Vm) (B : Pt), s.WarmedH vm₁ ∧ Stand p l e R s m args below meth c B.U B.locs B.cells B.slots ∧ Post ⟨T.setVm vm₁, locs, cells, slots⟩ (Value.ref b :: argsL).toArray v B ∧
      ∀ target, Steps p.tables e below (B.U.setTop { g with pc := g.pc + 3, stack := v.toList ++ rest }) target → Steps p.tables e below (T.setTop g) target) ∨
    (∃ (q : Addr) (vm₁ : Vm) (B : Pt), s.WarmedH vm₁ ∧ Stand p l e R s m args below meth c B.U B.locs B.cells B.slots ∧ PostX ⟨T.setVm vm₁, locs, cells, slots⟩ (Value.ref b :: argsL).toArray q B ∧
      Steps p.tables e below (T.setTop g) ((B.U.setTop { g with stack := rest }).pushFrame (.throwing q))) := by
  obtain ⟨mk, methM, hnamed, hmethM, hstM, habM⟩ := Cond.instanceMethod_spec hinst
  obtain ⟨methM', cM, hmethM', -, -, -, -, -, -, hsigM⟩ := Cond.code_spec hnamed hcode
  cases hmethM.symm.trans hmethM'
  obtain ⟨ps, dk, kp, hps, hdk, hkp, hsuper, -, -, hnid⟩ := Cond.superclass_spec hown hsup
  have hn : s.methodNamed? ⟨y.cls, y.name, y.desc⟩ = some mk := hnamed
  have hpm : ps = mk.cls := Option.some.inj (hps.symm.trans (findClass_of_methodNamed hnamed))
  have hsub : s.vm.isSubclass ps mk.cls = true := by rw [hpm]; simp [Vm.isSubclass, Vm.isSubclassAux]
  obtain ⟨vm₁, X₁, hstep₁⟩ := X.invokespecialUp hexec hown hlink hsame hn hmethM hstM habM hno hdk hnid hps hsuper hsub (a := b) (cell := cellB) hcell
    (fun z h => by rw [h] at hobj; cases hobj) hkB (g := g) hg (argsL := argsL) (rest := rest) (hlen _ hsigM) hstack hdg
  rcases hK m meth c ⟨T.setVm vm₁, locs, cells, slots⟩ { g with stack := rest } (.invokespecial index) mk (Value.ref b :: argsL).toArray X₁ hg hsize hdg hW (X₁.named hnamed) (hpre vm₁ X₁.warmed) with ⟨v, B, X', hpost, hsteps⟩ | ⟨q, B, X', hpost, hsteps⟩
  · exact Or.inl ⟨v, vm₁, B, X₁.warmed, X', hpost, fun target h => hstep₁ _ (by rw [doInvoke_state]; exact hsteps.trans h)⟩
  · exact Or.inr ⟨q, vm₁, B, X₁.warmed, X', hpost, hstep₁ _ (by rw [doInvoke_state]; exact hsteps)⟩
theorem vx_runSU {y : MethodName} {bytes cc : ByteArray} {maxL nL mc ms n index : Nat} {ret : Option FieldType} {ws : List Cond} {rm : Room} {Pc : Array Value → State → Prop} {Qc : Array Value → State → Outcome → State → Prop} {XC : String → State → State → Prop} {free : Addr → Prop} {Ts : List Cond} {own C : String} {cC : ClassId} {b : Addr} {As rest : List Value} {g : JFrame}
    (hat : ClassAt s C cC) (S : CallFix p m c cc nL s args Ts own) (hM : vx_Met l y ws rm Pc Qc XC mc ms free) (cw : va_CS R s args own index y bytes maxL ret ws rm mc ms n) (hp : PreV s H C b Pc As)
    (hg : g.method = m) (hn : As.length = n) (hsize : g.locals.size = nL) (hstack : g.stack = As.reverse ++ .ref b :: rest) (hW : 2 * g.monitorRoom + (rest.map fun v => v.category).sum ≤ 8) (hdg : decode cc g.pc = .ok (.invokespecial index, 3)) (hf : cells + mc ≤ R.cells ∧ slots + ms ≤ R.slots) :
    vx_Run p l e R s m args below meth c H locs cells slots mc ms g rest (Qc (Value.ref b :: As).toArray) XC free := by
  obtain ⟨⟨hrc, hrs, hfr, hlo, hws, hcw⟩, hl1, hl2, hl3, hl4, hini, hcode, hno, hlen⟩ := cw
  have hK : vx_Back l R p e below s args y 3 8 (PreOf R mc ms Pc) (PostOf Qc mc ms free) (vx_Post XC mc ms free) := vx_back (bytes := bytes) (maxL := maxL) (ret := ret) hM hp.1 hrc hrs hfr hlo hws hcw (fun a' U hW => word_at hW (Or.inl (by first | rfl | simp [Cond.onTables, Cond.keeps, Cond.steady])) hini)
  obtain ⟨hx, hb, hml, ho, -⟩ := S
  obtain ⟨-, ⟨cellB, hcB, hoB, hclB⟩, hPc⟩ := hp
  obtain ⟨hfc, kB, hkB, -⟩ := hat
  cases hfc.symm.trans hclB
  intro T hT X
  rcases vx_callSU X hx (bytes := bytes) (maxL := maxL) (ret := ret) ho hl1 hl2 hl3 hl4 hcode hno hK (by rw [hT]; exact hcB) hoB hkB hg (hsize.trans hml.symm) (argsL := As) (rest := rest) (fun sig h => hn.trans (hlen sig h)) hstack hW (by rw [hb]; exact hdg)
    (fun vm₁ hW₁ => ⟨hf.1, hf.2, hPc (T.setVm vm₁) hT hW₁⟩) with ⟨v, vm₁, ⟨U', l2, c2, s2⟩, hW₁, X', ⟨g', mk, t, L, e1, e2, hq, h1, hL, h2, h3⟩, st⟩ | ⟨q, vm₁, ⟨U', l2, c2, s2⟩, hW₁, X', ⟨g', mk, t, L, E, ce, e1, e2, hq, hce, hcv, hcl, h1, hL, h2, h3⟩, st⟩
  · dsimp only [Pt.U, Pt.locs, Pt.cells, Pt.slots] at X' e1 e2 h1 h2 h3 st
    subst h1; subst h2; subst h3
    exact Or.inl ⟨v, (T.setVm vm₁).calling g' mk (Value.ref b :: As).toArray, t, U', L, hT, X', hL, e1, e2, hq, st⟩
  · dsimp only [Pt.U, Pt.locs, Pt.cells, Pt.slots] at X' e1 e2 h1 h2 h3 st hcl
    subst h1; subst h2; subst h3
    exact Or.inr ⟨q, (T.setVm vm₁).calling g' mk (Value.ref b :: As).toArray, t, U', L, E, ce, hT, X', hL, e1, e2, hq, hce, hcv, vx_cls hW₁ hcl, st⟩
end
/-! ===== END ===== -/
/-! ===== BEGIN a private method of a nest mate that may throw (follows va_callVN, va_callSN, va_runVN, va_runSN) ===== -/
section
variable {p : Program} {l : Launch} {e : Env} {R : Room} {s : State} {m : MethodId} {args : Array Value} {below : List Frame} {meth : Method} {c : Code} {H : Heap} {locs : List Loc} {cells slots : Nat}
variable {T : State}
theorem vx_callVN (X : Stand p l e R s m args below meth c T locs cells slots) (hexec : p.tables.exec = Jvm.exec) {own C : String} {index : Nat} {host : String} {y : MethodName} {bytes : ByteArray} {maxL : Nat} {ret : Option FieldType}
    (hown : s.vm.findClass own = some m.cls) (hlink : (Cond.methodLinkNest own index y host).before args s = true) (hinst : (Cond.instanceMethod y).before args s = true) (hsel : (Cond.selects C y y).before args s = true)
    (hcode : (Cond.code y bytes maxL ret).before args s = true) (hy : y.cls ≠ "java/lang/invoke/MethodHandle" ∧ y.cls ≠ "java/lang/invoke/VarHandle")
    {W : Nat} {Pre : Pt → Array Value → Prop} {Post : Pt → Array Value → Option Value → Pt → Prop} {PostX : Pt → Array Value → Addr → Pt → Prop} (hK : vx_Back l R p e below s args y 3 W Pre Post PostX)
    {b : Addr} {cellB : Cell} (hcell : T.heap[b]? = some cellB) (hobj : cellB.vm.isStatics = false) (hcls : s.vm.findClass C = some cellB.cls)
    {g : JFrame} (hg : g.method = m) (hsize : g.locals.size = c.maxLocals) {argsL rest : List Value} (hlen : ∀ sig, parseMethodDescriptor y.desc = some sig → argsL.length = sig.parameters.length)
    (hstack : g.stack = argsL.reverse ++ .ref b :: rest) (hW : 2 * g.monitorRoom + (rest.map fun v => v.category).sum ≤ W) (hdg : decode c.code g.pc = .ok (.invokevirtual index, 3))
    (hpre : ∀ vm₁, s.WarmedH vm₁ → Pre ⟨T.setVm vm₁, locs, cells, slots⟩ (Value.ref b :: argsL).toArray) :
    (∃ (v : Option Value) (vm₁ : Vm) (B : Pt), s.WarmedH vm₁ ∧ Stand p l e R s m args below meth c B.U B.locs B.cells B.slots ∧ Post ⟨T.setVm vm₁, locs, cells, slots⟩ (Value.ref b :: argsL).toArray v B ∧
      ∀ target, Steps p.tables e below (B.U.setTop { g with pc := g.pc + 3, stack := v.toList ++ rest }) target → Steps p.tables e below (T.setTop g) target) ∨
    (∃ (q : Addr) (vm₁ : Vm) (B : Pt), s.WarmedH vm₁ ∧ Stand p l e R s m args below meth c B.U B.locs B.cells B.slots ∧ PostX ⟨T.setVm vm₁, locs, cells, slots⟩ (Value.ref b :: argsL).toArray q B ∧
      Steps p.tables e below (T.setTop g) ((B.U.setTop { g with stack := rest }).pushFrame (.throwing q))) := by
  obtain ⟨mk, methM, hnamed, hmethM, hstM, habM⟩ := Cond.instanceMethod_spec hinst
  obtain ⟨methM', cM, hmethM', -, -, -, -, -, -, hsigM⟩ := Cond.code_spec hnamed hcode
  cases hmethM.symm.trans hmethM'
  obtain ⟨c2, r2, m2, q1, q2, q3, q4, kP, hkP, hkPi⟩ := Cond.selects_spec hsel
  cases hcls.symm.trans q1
  cases (State.methodFound?_of_named hnamed hy).symm.trans q2
  cases hnamed.symm.trans q3
  have hselP : selectMethod e.platform s.vm cellB.cls mk = .method mk := by rw [Launch.admits_selectMethod X.admits]; exact q4
  obtain ⟨vm₁, X₁, hstep₁⟩ := X.invokevirtualNest hexec hown hlink hnamed hmethM hstM hkP hkPi hy (a := b) (cell := cellB) hcell
    (fun z h => by rw [h] at hobj; cases hobj) hselP hmethM habM hkP hkPi (g := g) hg (argsL := argsL) (rest := rest) (hlen _ hsigM) hstack hdg
  rcases hK m meth c ⟨T.setVm vm₁, locs, cells, slots⟩ { g with stack := rest } (.invokevirtual index) mk (Value.ref b :: argsL).toArray X₁ hg hsize hdg hW (X₁.named hnamed) (hpre vm₁ X₁.warmed) with ⟨v, B, X', hpost, hsteps⟩ | ⟨q, B, X', hpost, hsteps⟩
  · exact Or.inl ⟨v, vm₁, B, X₁.warmed, X', hpost, fun target h => hstep₁ _ fun acts => by rw [doInvoke_state]; exact hsteps.trans h⟩
  · exact Or.inr ⟨q, vm₁, B, X₁.warmed, X', hpost, hstep₁ _ fun acts => by rw [doInvoke_state]; exact hsteps⟩
theorem vx_callSN (X : Stand p l e R s m args below meth c T locs cells slots) (hexec : p.tables.exec = Jvm.exec) {own : String} {index : Nat} {host : String} {y : MethodName} {bytes : ByteArray} {maxL : Nat} {ret : Option FieldType}
    (hown : s.vm.findClass own = some m.cls) (hlink : (Cond.methodLinkNest own index y host).before args s = true) (hstat : (Cond.static y).before args s = true) (hinit : (Cond.initialized y.cls).before args s = true)
    (hcode : (Cond.code y bytes maxL ret).before args s = true) (hy : y.cls ≠ "java/lang/invoke/MethodHandle" ∧ y.cls ≠ "java/lang/invoke/VarHandle")
    {W : Nat} {Pre : Pt → Array Value → Prop} {Post : Pt → Array Value → Option Value → Pt → Prop} {PostX : Pt → Array Value → Addr → Pt → Prop} (hK : vx_Back l R p e below s args y 3 W Pre Post PostX)
    {g : JFrame} (hg : g.method = m) (hsize : g.locals.size = c.maxLocals) {argsL rest : List Value} (hlen : ∀ sig, parseMethodDescriptor y.desc = some sig → argsL.length = sig.parameters.length)
    (hstack : g.stack = argsL.reverse ++ rest) (hW : 2 * g.monitorRoom + (rest.map fun v => v.category).sum ≤ W) (hdg : decode c.code g.pc = .ok (.invokestatic index, 3))
    (hpre : ∀ vm₁, s.WarmedH vm₁ → Pre ⟨T.setVm vm₁, locs, cells, slots⟩ argsL.toArray) :
    (∃ (v : Option Value) (vm₁ : Vm) (B : Pt), s.WarmedH vm₁ ∧ Stand p l e R s m args below meth c B.U B.locs B.cells B.slots ∧ Post ⟨T.setVm vm₁, locs, cells, slots⟩ argsL.toArray v B ∧
      ∀ target, Steps p.tables e below (B.U.setTop { g with pc := g.pc + 3, stack := v.toList ++ rest }) target → Steps p.tables e below (T.setTop g) target) ∨
    (∃ (q : Addr) (vm₁ : Vm) (B : Pt), s.WarmedH vm₁ ∧ Stand p l e R s m args below meth c B.U B.locs B.cells B.slots ∧ PostX ⟨T.setVm vm₁, locs, cells, slots⟩ argsL.toArray q B ∧
      Steps p.tables e below (T.setTop g) ((B.U.setTop { g with stack := rest }).pushFrame (.throwing q))) := by
  obtain ⟨mk, hnamed⟩ := Cond.code_named hcode
  obtain ⟨methM, cM, hmethM, -, -, -, -, -, -, hsigM⟩ := Cond.code_spec hnamed hcode
  have hstatic : methM.isStatic = true := Cond.static_spec hnamed hmethM hstat
  obtain ⟨kP, hkP, -⟩ := className_of_methodNamed hnamed
  have hinitP : kP.init = .initialized := Cond.initialized_spec (findClass_of_methodNamed hnamed) hkP hinit
  obtain ⟨vm₁, X₁, hstep₁⟩ := X.invokestaticNest hexec hown hlink hnamed hmethM hstatic hkP hinitP hy (g := g) hg (argsL := argsL) (rest := rest) (hlen _ hsigM) hstack hdg
  rcases hK m meth c ⟨T.setVm vm₁, locs, cells, slots⟩ { g with stack := rest } (.invokestatic index) mk argsL.toArray X₁ hg hsize hdg hW (X₁.named hnamed) (hpre vm₁ X₁.warmed) with ⟨v, B, X', hpost, hsteps⟩ | ⟨q, B, X', hpost, hsteps⟩
  · exact Or.inl ⟨v, vm₁, B, X₁.warmed, X', hpost, fun target h => hstep₁ _ fun acts => by rw [doInvoke_state]; exact hsteps.trans h⟩
  · exact Or.inr ⟨q, vm₁, B, X₁.warmed, X', hpost, hstep₁ _ fun acts => by rw [doInvoke_state]; exact hsteps⟩
theorem vx_runVN {y : MethodName} {bytes cc : ByteArray} {maxL nL mc ms n index : Nat} {ret : Option FieldType} {ws : List Cond} {rm : Room} {Pc : Array Value → State → Prop} {Qc : Array Value → State → Outcome → State → Prop} {XC : String → State → State → Prop} {free : Addr → Prop} {Ts : List Cond} {own C host : String} {b : Addr} {As rest : List Value} {g : JFrame}
    (S : CallFix p m c cc nL s args Ts own) (hM : vx_Met l y ws rm Pc Qc XC mc ms free) (cw : va_CN R s args own index y host bytes maxL ret ws rm mc ms n ∧ (Cond.instanceMethod y).before args s = true ∧ (Cond.selects C y y).before args s = true) (hp : PreV s H C b Pc As)
    (hg : g.method = m) (hn : As.length = n) (hsize : g.locals.size = nL) (hstack : g.stack = As.reverse ++ .ref b :: rest) (hW : 2 * g.monitorRoom + (rest.map fun v => v.category).sum ≤ 8) (hdg : decode cc g.pc = .ok (.invokevirtual index, 3)) (hf : cells + mc ≤ R.cells ∧ slots + ms ≤ R.slots) :
    vx_Run p l e R s m args below meth c H locs cells slots mc ms g rest (Qc (Value.ref b :: As).toArray) XC free := by
  obtain ⟨⟨⟨hrc, hrs, hfr, hlo, hws, hcw⟩, hcode, hini, hy, hlen, hl⟩, hx1, hx2⟩ := cw
  have hK : vx_Back l R p e below s args y 3 8 (PreOf R mc ms Pc) (PostOf Qc mc ms free) (vx_Post XC mc ms free) := vx_back (bytes := bytes) (maxL := maxL) (ret := ret) hM hp.1 hrc hrs hfr hlo hws hcw (fun a' U hW => word_at hW (Or.inl (by first | rfl | simp [Cond.onTables, Cond.keeps, Cond.steady])) hini)
  obtain ⟨hx, hb, hml, ho, -⟩ := S
  obtain ⟨-, ⟨cellB, hcB, hoB, hclB⟩, hPc⟩ := hp
  intro T hT X
  rcases vx_callVN X hx (C := C) (bytes := bytes) (maxL := maxL) (ret := ret) ho hl hx1 hx2 hcode hy hK (by rw [hT]; exact hcB) hoB hclB hg (hsize.trans hml.symm) (argsL := As) (rest := rest) (fun sig h => hn.trans (hlen sig h)) hstack hW (by rw [hb]; exact hdg)
    (fun vm₁ hW₁ => ⟨hf.1, hf.2, hPc (T.setVm vm₁) hT hW₁⟩) with ⟨v, vm₁, ⟨U', l2, c2, s2⟩, hW₁, X', ⟨g', mk, t, L, e1, e2, hq, h1, hL, h2, h3⟩, st⟩ | ⟨q, vm₁, ⟨U', l2, c2, s2⟩, hW₁, X', ⟨g', mk, t, L, E, ce, e1, e2, hq, hce, hcv, hcl, h1, hL, h2, h3⟩, st⟩
  · dsimp only [Pt.U, Pt.locs, Pt.cells, Pt.slots] at X' e1 e2 h1 h2 h3 st
    subst h1; subst h2; subst h3
    exact Or.inl ⟨v, (T.setVm vm₁).calling g' mk (Value.ref b :: As).toArray, t, U', L, hT, X', hL, e1, e2, hq, st⟩
  · dsimp only [Pt.U, Pt.locs, Pt.cells, Pt.slots] at X' e1 e2 h1 h2 h3 st hcl
    subst h1; subst h2; subst h3
    exact Or.inr ⟨q, (T.setVm vm₁).calling g' mk (Value.ref b :: As).toArray, t, U', L, E, ce, hT, X', hL, e1, e2, hq, hce, hcv, vx_cls hW₁ hcl, st⟩
theorem vx_runSN {y : MethodName} {bytes cc : ByteArray} {maxL nL mc ms n index : Nat} {ret : Option FieldType} {ws : List Cond} {rm : Room} {Pc : Array Value → State → Prop} {Qc : Array Value → State → Outcome → State → Prop} {XC : String → State → State → Prop} {free : Addr → Prop} {Ts : List Cond} {own host : String} {As rest : List Value} {g : JFrame}
    (S : CallFix p m c cc nL s args Ts own) (hM : vx_Met l y ws rm Pc Qc XC mc ms free) (cw : va_CN R s args own index y host bytes maxL ret ws rm mc ms n ∧ (Cond.static y).before args s = true ∧ True) (hp : PreS s H Pc As)
    (hg : g.method = m) (hn : As.length = n) (hsize : g.locals.size = nL) (hstack : g.stack = As.reverse ++ rest) (hW : 2 * g.monitorRoom + (rest.map fun v => v.category).sum ≤ 8) (hdg : decode cc g.pc = .ok (.invokestatic index, 3)) (hf : cells + mc ≤ R.cells ∧ slots + ms ≤ R.slots) :
    vx_Run p l e R s m args below meth c H locs cells slots mc ms g rest (Qc As.toArray) XC free := by
  obtain ⟨⟨⟨hrc, hrs, hfr, hlo, hws, hcw⟩, hcode, hini, hy, hlen, hl⟩, hx1, hx2⟩ := cw
  have hK : vx_Back l R p e below s args y 3 8 (PreOf R mc ms Pc) (PostOf Qc mc ms free) (vx_Post XC mc ms free) := vx_back (bytes := bytes) (maxL := maxL) (ret := ret) hM hp.1 hrc hrs hfr hlo hws hcw (fun a' U hW => word_at hW (Or.inl (by first | rfl | simp [Cond.onTables, Cond.keeps, Cond.steady])) hini)
  obtain ⟨hx, hb, hml, ho, -⟩ := S
  have hPc := hp.2
  intro T hT X
  rcases vx_callSN X hx (bytes := bytes) (maxL := maxL) (ret := ret) ho hl hx1 hini hcode hy hK hg (hsize.trans hml.symm) (argsL := As) (rest := rest) (fun sig h => hn.trans (hlen sig h)) hstack hW (by rw [hb]; exact hdg)
    (fun vm₁ hW₁ => ⟨hf.1, hf.2, hPc (T.setVm vm₁) hT hW₁⟩) with ⟨v, vm₁, ⟨U', l2, c2, s2⟩, hW₁, X', ⟨g', mk, t, L, e1, e2, hq, h1, hL, h2, h3⟩, st⟩ | ⟨q, vm₁, ⟨U', l2, c2, s2⟩, hW₁, X', ⟨g', mk, t, L, E, ce, e1, e2, hq, hce, hcv, hcl, h1, hL, h2, h3⟩, st⟩
  · dsimp only [Pt.U, Pt.locs, Pt.cells, Pt.slots] at X' e1 e2 h1 h2 h3 st
    subst h1; subst h2; subst h3
    exact Or.inl ⟨v, (T.setVm vm₁).calling g' mk As.toArray, t, U', L, hT, X', hL, e1, e2, hq, st⟩
  · dsimp only [Pt.U, Pt.locs, Pt.cells, Pt.slots] at X' e1 e2 h1 h2 h3 st hcl
    subst h1; subst h2; subst h3
    exact Or.inr ⟨q, (T.setVm vm₁).calling g' mk As.toArray, t, U', L, E, ce, hT, X', hL, e1, e2, hq, hce, hcv, vx_cls hW₁ hcl, st⟩
end
/-! ===== END ===== -/
/-! ===== BEGIN calls by an interface of methods that may throw (vx_callIF, vx_runF follow va_callIF, va_runF of this kit) ===== -/
section
variable {p : Program} {l : Launch} {e : Env} {R : Room} {s : State} {m : MethodId} {args : Array Value} {below : List Frame} {meth : Method} {c : Code} {H : Heap} {locs : List Loc} {cells slots : Nat} {Q : State → Prop}
variable {mc ms : Nat} {free : Addr → Prop} {A0 A1 : Nat → Prop} {H0 : Heap} {a : Array Value} {pc : Nat} {ls : Array Slot} {st0 rest : List Value}
def vx_Run5 (p : Program) (l : Launch) (e : Env) (R : Room) (s : State) (m : MethodId) (args : Array Value) (below : List Frame) (meth : Method) (c : Code) (H : Heap) (locs : List Loc) (cells slots mc ms : Nat) (g : JFrame) (rest : List Value) (Qa : State → Outcome → State → Prop) (XC : String → State → State → Prop) (free : Addr → Prop) : Prop :=
  ∀ T : State, T.heap = H → Stand p l e R s m args below meth c T locs cells slots →
    (∃ (v : Option Value) (st₀ t T' : State) (L : List Loc), st₀.heap = H ∧ Stand p l e R s m args below meth c T' (locs ++ L) (cells + mc) (slots + ms) ∧ (∀ q ∈ L, free q.base) ∧ T'.heap = t.heap ∧ T'.vm = t.vm ∧ Qa st₀ (.returned v) t ∧
      Goes p e below T g T' { g with pc := g.pc + 5, stack := v.toList ++ rest }) ∨
    (∃ (q : Addr) (st₀ t T' : State) (L : List Loc) (E : String) (ce : Cell), st₀.heap = H ∧ Stand p l e R s m args below meth c T' (locs ++ L) (cells + mc) (slots + ms) ∧ (∀ z ∈ L, free z.base) ∧ T'.heap = t.heap ∧ T'.vm = t.vm ∧ XC E st₀ t ∧ t.heap[q]? = some ce ∧ ce.vm = .none ∧ s.vm.findClass E = some ce.cls ∧
      Steps p.tables e below (T.setTop g) ((T'.setTop { g with stack := rest }).pushFrame (.throwing q)))
theorem vx_callIF {T : State} (X : Stand p l e R s m args below meth c T locs cells slots) (hexec : p.tables.exec = Jvm.exec) {own C : String} {index count : Nat} {x y : MethodName} {bytes : ByteArray} {maxL : Nat} {ret : Option FieldType}
    (hown : s.vm.findClass own = some m.cls) (hlink : (Cond.methodLink own index x).before args s = true) (hdecl : (Cond.declares x).before args s = true) (hface : (Cond.interfaceMethod x.cls x.cls x.name x.desc).before args s = true)
    (hsel : (Cond.selects C x y).before args s = true) (hinst : (Cond.instanceMethod y).before args s = true) (hpub : (Cond.publicMethod y).before args s = true) (hunh : (Cond.unhidden C x.name x.desc).before args s = true)
    (hcast : (Cond.castable C x.cls).before args s = true) (hcode : (Cond.code y bytes maxL ret).before args s = true) (hx : x.cls ≠ "java/lang/invoke/MethodHandle" ∧ x.cls ≠ "java/lang/invoke/VarHandle")
    {W9 : Nat} {Pre : Pt → Array Value → Prop} {Post : Pt → Array Value → Option Value → Pt → Prop} {PostX : Pt → Array Value → Addr → Pt → Prop} (hK : vx_Back l R p e below s args y 5 W9 Pre Post PostX)
    {b : Addr} {cellB : Cell} {kB : Class} (hcell : T.heap[b]? = some cellB) (hobj : cellB.vm.isStatics = false) (hcls : s.vm.findClass C = some cellB.cls) (hkB : s.vm.classes[cellB.cls]? = some kB)
    {g : JFrame} (hg : g.method = m) (hsize : g.locals.size = c.maxLocals) {argsL rest : List Value} (hlen : ∀ sig, parseMethodDescriptor x.desc = some sig → argsL.length = sig.parameters.length)
    (hstack : g.stack = argsL.reverse ++ .ref b :: rest) (hW : 2 * g.monitorRoom + (rest.map fun v => v.category).sum ≤ W9) (hdg : decode c.code g.pc = .ok (.invokeinterface index count, 5))
    (hpre : ∀ vm₁, s.WarmedH vm₁ → Pre ⟨T.setVm vm₁, locs, cells, slots⟩ (Value.ref b :: argsL).toArray) :
    (∃ (v : Option Value) (vm₁ : Vm) (B : Pt), s.WarmedH vm₁ ∧ Stand p l e R s m args below meth c B.U B.locs B.cells B.slots ∧ Post ⟨T.setVm vm₁, locs, cells, slots⟩ (Value.ref b :: argsL).toArray v B ∧
      ∀ target, Steps p.tables e below (B.U.setTop { g with pc := g.pc + 5, stack := v.toList ++ rest }) target → Steps p.tables e below (T.setTop g) target) ∨
    (∃ (q : Addr) (vm₁ : Vm) (B : Pt), s.WarmedH vm₁ ∧ Stand p l e R s m args below meth c B.U B.locs B.cells B.slots ∧ PostX ⟨T.setVm vm₁, locs, cells, slots⟩ (Value.ref b :: argsL).toArray q B ∧
      Steps p.tables e below (T.setTop g) ((B.U.setTop { g with stack := rest }).pushFrame (.throwing q))) := by
  obtain ⟨r0, r, hn, hrm, hstR, hsigR⟩ := Cond.declares_spec hdecl
  obtain ⟨cL, kL, r1, hcL, hkL, hiL, hfoundL, hn1⟩ := Cond.interfaceMethod_spec hface
  cases hn.symm.trans hn1
  have hr0cls : r0.cls = cL := Option.some.inj ((findClass_of_methodNamed hn).symm.trans hcL)
  obtain ⟨hnameR, hdescR⟩ := name_of_methodNamed hn hrm
  obtain ⟨mk, methM, hnamed, hmethM, -, habM⟩ := Cond.instanceMethod_spec hinst
  obtain ⟨c2, r2, m2, q1, q2, q3, q4, -⟩ := Cond.selects_spec hsel
  cases hcls.symm.trans q1
  cases hfoundL.symm.trans q2
  cases hnamed.symm.trans q3
  have hselP : selectMethod e.platform s.vm cellB.cls r0 = .method mk := by rw [Launch.admits_selectMethod X.admits]; exact q4
  have hpubM : hasFlag methM.accessFlags Acc.public_ = true := Cond.publicMethod_spec hnamed hmethM hpub
  have hway : ((cellB.cls :: s.vm.superclasses cellB.cls).any fun k => (declaredIn s.vm r.name r.desc k).any fun (_, z) => z.isPrivate || z.isStatic) = false := by
    rw [hnameR, hdescR]; exact Cond.unhidden_spec hcls hunh
  obtain ⟨c3, t3, w1, w2, w3⟩ := Cond.castable_spec hcast
  cases hcls.symm.trans w1
  cases hcL.symm.trans w2
  obtain ⟨vm₁, X₁, hstep₁⟩ := X.invokeinterface hexec hown hlink hn hrm hstR (by rw [hr0cls]; exact hkL) hiL hx (a := b) (cell := cellB) (kcell := kB) hcell
    (fun z h => by rw [h] at hobj; cases hobj) hkB (by rw [hr0cls]; exact w3) hselP hmethM hway hpubM habM (g := g) hg (argsL := argsL) (rest := rest) (hlen _ hsigR) hstack hdg
  rcases hK m meth c ⟨T.setVm vm₁, locs, cells, slots⟩ { g with stack := rest } (.invokeinterface index count) mk (Value.ref b :: argsL).toArray X₁ hg hsize hdg hW (X₁.named hnamed) (hpre vm₁ X₁.warmed) with ⟨v, B, X', hpost, hsteps⟩ | ⟨q, B, X', hpost, hsteps⟩
  · exact Or.inl ⟨v, vm₁, B, X₁.warmed, X', hpost, fun target h => hstep₁ _ fun acts => by rw [doInvoke_state]; exact hsteps.trans h⟩
  · exact Or.inr ⟨q, vm₁, B, X₁.warmed, X', hpost, hstep₁ _ fun acts => by rw [doInvoke_state]; exact hsteps⟩
theorem vx_runF {x y : MethodName} {bytes cc : ByteArray} {maxL nL mc ms n index count : Nat} {ret : Option FieldType} {ws : List Cond} {rm : Room} {Pc : Array Value → State → Prop} {Qc : Array Value → State → Outcome → State → Prop} {XC : String → State → State → Prop} {free : Addr → Prop} {Ts : List Cond} {own C : String} {cC : ClassId} {b : Addr} {As rest : List Value} {g : JFrame}
    (hat : ClassAt s C cC) (S : CallFix p m c cc nL s args Ts own) (hM : vx_Met l y ws rm Pc Qc XC mc ms free) (cw : va_CI R s args own C index x y bytes maxL ret ws rm mc ms n) (hp : PreV s H C b Pc As)
    (hg : g.method = m) (hn : As.length = n) (hsize : g.locals.size = nL) (hstack : g.stack = As.reverse ++ .ref b :: rest) (hW : 2 * g.monitorRoom + (rest.map fun v => v.category).sum ≤ 8) (hdg : decode cc g.pc = .ok (.invokeinterface index count, 5)) (hf : cells + mc ≤ R.cells ∧ slots + ms ≤ R.slots) :
    vx_Run5 p l e R s m args below meth c H locs cells slots mc ms g rest (Qc (Value.ref b :: As).toArray) XC free := by
  obtain ⟨hrc, hrs, hfr, hlo, hws, hcw⟩ := cw.back
  have hini := cw.init
  have hK : vx_Back l R p e below s args y 5 8 (PreOf R mc ms Pc) (PostOf Qc mc ms free) (vx_Post XC mc ms free) := vx_back (bytes := bytes) (maxL := maxL) (ret := ret) hM hp.1 hrc hrs hfr hlo hws hcw (fun a' U hW => word_at hW (Or.inl (by first | rfl | simp [Cond.onTables, Cond.keeps, Cond.steady])) hini)
  obtain ⟨hx, hb, hml, ho, -⟩ := S
  obtain ⟨-, ⟨cellB, hcB, hoB, hclB⟩, hPc⟩ := hp
  obtain ⟨hfc, kB, hkB, -⟩ := hat
  cases hfc.symm.trans hclB
  intro T hT X
  rcases vx_callIF X hx (C := C) (bytes := bytes) (maxL := maxL) (ret := ret) ho cw.link cw.decl cw.face cw.sel cw.inst cw.pub cw.unh cw.cast cw.code cw.notMH hK (by rw [hT]; exact hcB) hoB hclB hkB hg (hsize.trans hml.symm) (argsL := As) (rest := rest) (fun sig h => hn.trans (cw.len sig h)) hstack hW (by rw [hb]; exact hdg)
    (fun vm₁ hW₁ => ⟨hf.1, hf.2, hPc (T.setVm vm₁) hT hW₁⟩) with ⟨v, vm₁, ⟨U', l2, c2, s2⟩, hW₁, X', ⟨g', mk, t, L, e1, e2, hq, h1, hL, h2, h3⟩, st⟩ | ⟨q, vm₁, ⟨U', l2, c2, s2⟩, hW₁, X', ⟨g', mk, t, L, E, ce, e1, e2, hq, hce, hcv, hcl, h1, hL, h2, h3⟩, st⟩
  · dsimp only [Pt.U, Pt.locs, Pt.cells, Pt.slots] at X' e1 e2 h1 h2 h3 st
    subst h1; subst h2; subst h3
    exact Or.inl ⟨v, (T.setVm vm₁).calling g' mk (Value.ref b :: As).toArray, t, U', L, hT, X', hL, e1, e2, hq, st⟩
  · dsimp only [Pt.U, Pt.locs, Pt.cells, Pt.slots] at X' e1 e2 h1 h2 h3 st hcl
    subst h1; subst h2; subst h3
    exact Or.inr ⟨q, (T.setVm vm₁).calling g' mk (Value.ref b :: As).toArray, t, U', L, E, ce, hT, X', hL, e1, e2, hq, hce, hcv, vx_cls hW₁ hcl, st⟩
theorem vx_callFv {S SX : Type} {post : S → Prop} {px : SX → Prop} {B : S → State → Prop} {BX : String → SX → State → Prop} {AX : Nat → Prop} (hr : vx_Run5 p l e R s m args below meth c H locs cells slots mc ms (F0 m pc ls st0) rest (va_Qv post B A1 a) (vx_X px BX AX) free) (hS : va_S A0 H0 H locs) (hA : ∀ q, q < H.size → A1 q → A0 q) (hf : ∀ q, free q → A0 q) (hAX : ∀ q, q < H.size → AX q → A0 q)
    (kx : ∀ (E : String) (ce : Cell) (q9 : Addr) (u : SX) (t : State) (H1 : Heap) (locs1 : List Loc), t.heap = H1 → s.vm.Alike t.vm → px u → BX E u t → H.size ≤ H1.size → (∀ q : Nat, q < H.size → ¬ AX q → H1[q]? = H[q]?) → va_S A0 H0 H1 locs1 → H1[q9]? = some ce → ce.vm = .none → s.vm.findClass E = some ce.cls → vx_W p l e R s m args below meth c H1 locs1 (cells + mc) (slots + ms) Q (F0 m pc ls rest) q9)
    (kk : ∀ (u : S) (t : State) (H1 : Heap) (locs1 : List Loc), t.heap = H1 → s.vm.Alike t.vm → post u → B u t → H.size ≤ H1.size → (∀ q : Nat, q < H.size → ¬ A1 q → H1[q]? = H[q]?) → va_S A0 H0 H1 locs1 → W p l e R s m args below meth c H1 locs1 (cells + mc) (slots + ms) Q (F0 m (pc + 5) ls (rest))) : W p l e R s m args below meth c H locs cells slots Q (F0 m pc ls st0) := by
  intro T hT X
  rcases hr T hT X with ⟨v, st₀, t, T', L, h0, X', hL, e1, e2, ⟨⟨u, hv, hp, hb⟩, hF⟩, st⟩ | ⟨q, st₀, t, T', L, E, ce, h0, X', hL, e1, e2, ⟨u, hp, hb, hF⟩, hce, hcv, hcl, st⟩
  · cases hv
    obtain ⟨k1, k2, k3⟩ := vx_keep h0 e1 hS hA hf hL hF
    obtain ⟨t2, a1, b1⟩ := kk u t T'.heap (locs ++ L) e1.symm (by rw [← e2]; exact X'.warmed.alike) hp hb k1 k2 k3 T' rfl X'
    exact ⟨t2, st t2 a1, b1⟩
  · obtain ⟨k1, k2, k3⟩ := vx_keep h0 e1 hS hAX hf hL hF
    obtain ⟨t2, a1, b1⟩ := kx E ce q u t T'.heap (locs ++ L) e1.symm (by rw [← e2]; exact X'.warmed.alike) hp hb k1 k2 k3 (by rw [e1]; exact hce) hcv hcl T' rfl X'
    exact ⟨t2, st.trans a1, b1⟩
theorem vx_callFi {S SX : Type} {post : Int32 → S → Prop} {px : SX → Prop} {B : S → State → Prop} {BX : String → SX → State → Prop} {AX : Nat → Prop} (hr : vx_Run5 p l e R s m args below meth c H locs cells slots mc ms (F0 m pc ls st0) rest (va_Qi post B A1 a) (vx_X px BX AX) free) (hS : va_S A0 H0 H locs) (hA : ∀ q, q < H.size → A1 q → A0 q) (hf : ∀ q, free q → A0 q) (hAX : ∀ q, q < H.size → AX q → A0 q)
    (kx : ∀ (E : String) (ce : Cell) (q9 : Addr) (u : SX) (t : State) (H1 : Heap) (locs1 : List Loc), t.heap = H1 → s.vm.Alike t.vm → px u → BX E u t → H.size ≤ H1.size → (∀ q : Nat, q < H.size → ¬ AX q → H1[q]? = H[q]?) → va_S A0 H0 H1 locs1 → H1[q9]? = some ce → ce.vm = .none → s.vm.findClass E = some ce.cls → vx_W p l e R s m args below meth c H1 locs1 (cells + mc) (slots + ms) Q (F0 m pc ls rest) q9)
    (kk : ∀ (r : Int32) (u : S) (t : State) (H1 : Heap) (locs1 : List Loc), t.heap = H1 → s.vm.Alike t.vm → post r u → B u t → H.size ≤ H1.size → (∀ q : Nat, q < H.size → ¬ A1 q → H1[q]? = H[q]?) → va_S A0 H0 H1 locs1 → W p l e R s m args below meth c H1 locs1 (cells + mc) (slots + ms) Q (F0 m (pc + 5) ls (.int r :: rest))) : W p l e R s m args below meth c H locs cells slots Q (F0 m pc ls st0) := by
  intro T hT X
  rcases hr T hT X with ⟨v, st₀, t, T', L, h0, X', hL, e1, e2, ⟨⟨r, u, hv, hp, hb⟩, hF⟩, st⟩ | ⟨q, st₀, t, T', L, E, ce, h0, X', hL, e1, e2, ⟨u, hp, hb, hF⟩, hce, hcv, hcl, st⟩
  · cases hv
    obtain ⟨k1, k2, k3⟩ := vx_keep h0 e1 hS hA hf hL hF
    obtain ⟨t2, a1, b1⟩ := kk r u t T'.heap (locs ++ L) e1.symm (by rw [← e2]; exact X'.warmed.alike) hp hb k1 k2 k3 T' rfl X'
    exact ⟨t2, st t2 a1, b1⟩
  · obtain ⟨k1, k2, k3⟩ := vx_keep h0 e1 hS hAX hf hL hF
    obtain ⟨t2, a1, b1⟩ := kx E ce q u t T'.heap (locs ++ L) e1.symm (by rw [← e2]; exact X'.warmed.alike) hp hb k1 k2 k3 (by rw [e1]; exact hce) hcv hcl T' rfl X'
    exact ⟨t2, st.trans a1, b1⟩
theorem vx_callFl {S SX : Type} {post : Int64 → S → Prop} {px : SX → Prop} {B : S → State → Prop} {BX : String → SX → State → Prop} {AX : Nat → Prop} (hr : vx_Run5 p l e R s m args below meth c H locs cells slots mc ms (F0 m pc ls st0) rest (va_Ql post B A1 a) (vx_X px BX AX) free) (hS : va_S A0 H0 H locs) (hA : ∀ q, q < H.size → A1 q → A0 q) (hf : ∀ q, free q → A0 q) (hAX : ∀ q, q < H.size → AX q → A0 q)
    (kx : ∀ (E : String) (ce : Cell) (q9 : Addr) (u : SX) (t : State) (H1 : Heap) (locs1 : List Loc), t.heap = H1 → s.vm.Alike t.vm → px u → BX E u t → H.size ≤ H1.size → (∀ q : Nat, q < H.size → ¬ AX q → H1[q]? = H[q]?) → va_S A0 H0 H1 locs1 → H1[q9]? = some ce → ce.vm = .none → s.vm.findClass E = some ce.cls → vx_W p l e R s m args below meth c H1 locs1 (cells + mc) (slots + ms) Q (F0 m pc ls rest) q9)
    (kk : ∀ (r : Int64) (u : S) (t : State) (H1 : Heap) (locs1 : List Loc), t.heap = H1 → s.vm.Alike t.vm → post r u → B u t → H.size ≤ H1.size → (∀ q : Nat, q < H.size → ¬ A1 q → H1[q]? = H[q]?) → va_S A0 H0 H1 locs1 → W p l e R s m args below meth c H1 locs1 (cells + mc) (slots + ms) Q (F0 m (pc + 5) ls (.long r :: rest))) : W p l e R s m args below meth c H locs cells slots Q (F0 m pc ls st0) := by
  intro T hT X
  rcases hr T hT X with ⟨v, st₀, t, T', L, h0, X', hL, e1, e2, ⟨⟨r, u, hv, hp, hb⟩, hF⟩, st⟩ | ⟨q, st₀, t, T', L, E, ce, h0, X', hL, e1, e2, ⟨u, hp, hb, hF⟩, hce, hcv, hcl, st⟩
  · cases hv
    obtain ⟨k1, k2, k3⟩ := vx_keep h0 e1 hS hA hf hL hF
    obtain ⟨t2, a1, b1⟩ := kk r u t T'.heap (locs ++ L) e1.symm (by rw [← e2]; exact X'.warmed.alike) hp hb k1 k2 k3 T' rfl X'
    exact ⟨t2, st t2 a1, b1⟩
  · obtain ⟨k1, k2, k3⟩ := vx_keep h0 e1 hS hAX hf hL hF
    obtain ⟨t2, a1, b1⟩ := kx E ce q u t T'.heap (locs ++ L) e1.symm (by rw [← e2]; exact X'.warmed.alike) hp hb k1 k2 k3 (by rw [e1]; exact hce) hcv hcl T' rfl X'
    exact ⟨t2, st.trans a1, b1⟩
theorem vx_callFf {S SX : Type} {post : UInt32 → S → Prop} {px : SX → Prop} {B : S → State → Prop} {BX : String → SX → State → Prop} {AX : Nat → Prop} (hr : vx_Run5 p l e R s m args below meth c H locs cells slots mc ms (F0 m pc ls st0) rest (va_Qf post B A1 a) (vx_X px BX AX) free) (hS : va_S A0 H0 H locs) (hA : ∀ q, q < H.size → A1 q → A0 q) (hf : ∀ q, free q → A0 q) (hAX : ∀ q, q < H.size → AX q → A0 q)
    (kx : ∀ (E : String) (ce : Cell) (q9 : Addr) (u : SX) (t : State) (H1 : Heap) (locs1 : List Loc), t.heap = H1 → s.vm.Alike t.vm → px u → BX E u t → H.size ≤ H1.size → (∀ q : Nat, q < H.size → ¬ AX q → H1[q]? = H[q]?) → va_S A0 H0 H1 locs1 → H1[q9]? = some ce → ce.vm = .none → s.vm.findClass E = some ce.cls → vx_W p l e R s m args below meth c H1 locs1 (cells + mc) (slots + ms) Q (F0 m pc ls rest) q9)
    (kk : ∀ (r : UInt32) (u : S) (t : State) (H1 : Heap) (locs1 : List Loc), t.heap = H1 → s.vm.Alike t.vm → post r u → B u t → H.size ≤ H1.size → (∀ q : Nat, q < H.size → ¬ A1 q → H1[q]? = H[q]?) → va_S A0 H0 H1 locs1 → W p l e R s m args below meth c H1 locs1 (cells + mc) (slots + ms) Q (F0 m (pc + 5) ls (.float r :: rest))) : W p l e R s m args below meth c H locs cells slots Q (F0 m pc ls st0) := by
  intro T hT X
  rcases hr T hT X with ⟨v, st₀, t, T', L, h0, X', hL, e1, e2, ⟨⟨r, u, hv, hp, hb⟩, hF⟩, st⟩ | ⟨q, st₀, t, T', L, E, ce, h0, X', hL, e1, e2, ⟨u, hp, hb, hF⟩, hce, hcv, hcl, st⟩
  · cases hv
    obtain ⟨k1, k2, k3⟩ := vx_keep h0 e1 hS hA hf hL hF
    obtain ⟨t2, a1, b1⟩ := kk r u t T'.heap (locs ++ L) e1.symm (by rw [← e2]; exact X'.warmed.alike) hp hb k1 k2 k3 T' rfl X'
    exact ⟨t2, st t2 a1, b1⟩
  · obtain ⟨k1, k2, k3⟩ := vx_keep h0 e1 hS hAX hf hL hF
    obtain ⟨t2, a1, b1⟩ := kx E ce q u t T'.heap (locs ++ L) e1.symm (by rw [← e2]; exact X'.warmed.alike) hp hb k1 k2 k3 (by rw [e1]; exact hce) hcv hcl T' rfl X'
    exact ⟨t2, st.trans a1, b1⟩
theorem vx_callFd {S SX : Type} {post : UInt64 → S → Prop} {px : SX → Prop} {B : S → State → Prop} {BX : String → SX → State → Prop} {AX : Nat → Prop} (hr : vx_Run5 p l e R s m args below meth c H locs cells slots mc ms (F0 m pc ls st0) rest (va_Qd post B A1 a) (vx_X px BX AX) free) (hS : va_S A0 H0 H locs) (hA : ∀ q, q < H.size → A1 q → A0 q) (hf : ∀ q, free q → A0 q) (hAX : ∀ q, q < H.size → AX q → A0 q)
    (kx : ∀ (E : String) (ce : Cell) (q9 : Addr) (u : SX) (t : State) (H1 : Heap) (locs1 : List Loc), t.heap = H1 → s.vm.Alike t.vm → px u → BX E u t → H.size ≤ H1.size → (∀ q : Nat, q < H.size → ¬ AX q → H1[q]? = H[q]?) → va_S A0 H0 H1 locs1 → H1[q9]? = some ce → ce.vm = .none → s.vm.findClass E = some ce.cls → vx_W p l e R s m args below meth c H1 locs1 (cells + mc) (slots + ms) Q (F0 m pc ls rest) q9)
    (kk : ∀ (r : UInt64) (u : S) (t : State) (H1 : Heap) (locs1 : List Loc), t.heap = H1 → s.vm.Alike t.vm → post r u → B u t → H.size ≤ H1.size → (∀ q : Nat, q < H.size → ¬ A1 q → H1[q]? = H[q]?) → va_S A0 H0 H1 locs1 → W p l e R s m args below meth c H1 locs1 (cells + mc) (slots + ms) Q (F0 m (pc + 5) ls (.double r :: rest))) : W p l e R s m args below meth c H locs cells slots Q (F0 m pc ls st0) := by
  intro T hT X
  rcases hr T hT X with ⟨v, st₀, t, T', L, h0, X', hL, e1, e2, ⟨⟨r, u, hv, hp, hb⟩, hF⟩, st⟩ | ⟨q, st₀, t, T', L, E, ce, h0, X', hL, e1, e2, ⟨u, hp, hb, hF⟩, hce, hcv, hcl, st⟩
  · cases hv
    obtain ⟨k1, k2, k3⟩ := vx_keep h0 e1 hS hA hf hL hF
    obtain ⟨t2, a1, b1⟩ := kk r u t T'.heap (locs ++ L) e1.symm (by rw [← e2]; exact X'.warmed.alike) hp hb k1 k2 k3 T' rfl X'
    exact ⟨t2, st t2 a1, b1⟩
  · obtain ⟨k1, k2, k3⟩ := vx_keep h0 e1 hS hAX hf hL hF
    obtain ⟨t2, a1, b1⟩ := kx E ce q u t T'.heap (locs ++ L) e1.symm (by rw [← e2]; exact X'.warmed.alike) hp hb k1 k2 k3 (by rw [e1]; exact hce) hcv hcl T' rfl X'
    exact ⟨t2, st.trans a1, b1⟩
end
/-! ===== END ===== -/
/-! ===== BEGIN by an interface, a method with a table of its own that may throw (follows va_callIFW, va_runFW) ===== -/
section
variable {p : Program} {l : Launch} {e : Env} {R : Room} {s : State} {m : MethodId} {args : Array Value} {below : List Frame} {meth : Method} {c : Code} {H : Heap} {locs : List Loc} {cells slots : Nat}
theorem vx_callIFW {T : State} (X : Stand p l e R s m args below meth c T locs cells slots) (hexec : p.tables.exec = Jvm.exec) {own C : String} {index count : Nat} {x y : MethodName} {bytes : ByteArray} {maxL : Nat} {ret : Option FieldType} {hh : List (Nat × Nat × Nat × Nat)}
    (hown : s.vm.findClass own = some m.cls) (hlink : (Cond.methodLink own index x).before args s = true) (hdecl : (Cond.declares x).before args s = true) (hface : (Cond.interfaceMethod x.cls x.cls x.name x.desc).before args s = true)
    (hsel : (Cond.selects C x y).before args s = true) (hinst : (Cond.instanceMethod y).before args s = true) (hpub : (Cond.publicMethod y).before args s = true) (hunh : (Cond.unhidden C x.name x.desc).before args s = true)
    (hcast : (Cond.castable C x.cls).before args s = true) (hcode : (Cond.codeWith y bytes maxL ret hh).before args s = true) (hx : x.cls ≠ "java/lang/invoke/MethodHandle" ∧ x.cls ≠ "java/lang/invoke/VarHandle")
    {W : Nat} {Pre : Pt → Array Value → Prop} {Post : Pt → Array Value → Option Value → Pt → Prop} {PostX : Pt → Array Value → Addr → Pt → Prop} (hK : vx_Back l R p e below s args y 5 W Pre Post PostX)
    {b : Addr} {cellB : Cell} {kB : Class} (hcell : T.heap[b]? = some cellB) (hobj : cellB.vm.isStatics = false) (hcls : s.vm.findClass C = some cellB.cls) (hkB : s.vm.classes[cellB.cls]? = some kB)
    {g : JFrame} (hg : g.method = m) (hsize : g.locals.size = c.maxLocals) {argsL rest : List Value} (hlen : ∀ sig, parseMethodDescriptor x.desc = some sig → argsL.length = sig.parameters.length)
    (hstack : g.stack = argsL.reverse ++ .ref b :: rest) (hW : 2 * g.monitorRoom + (rest.map fun v => v.category).sum ≤ W) (hdg : decode c.code g.pc = .ok (.invokeinterface index count, 5))
    (hpre : ∀ vm₁, s.WarmedH vm₁ → Pre ⟨T.setVm vm₁, locs, cells, slots⟩ (Value.ref b :: argsL).toArray) :
    (∃ (v : Option Value) (vm₁ : Vm) (B : Pt), s.WarmedH vm₁ ∧ Stand p l e R s m args below meth c B.U B.locs B.cells B.slots ∧ Post ⟨T.setVm vm₁, locs, cells, slots⟩ (Value.ref b :: argsL).toArray v B ∧
      ∀ target, Steps p.tables e below (B.U.setTop { g with pc := g.pc + 5, stack := v.toList ++ rest }) target → Steps p.tables e below (T.setTop g) target) ∨
    (∃ (q : Addr) (vm₁ : Vm) (B : Pt), s.WarmedH vm₁ ∧ Stand p l e R s m args below meth c B.U B.locs B.cells B.slots ∧ PostX ⟨T.setVm vm₁, locs, cells, slots⟩ (Value.ref b :: argsL).toArray q B ∧
      Steps p.tables e below (T.setTop g) ((B.U.setTop { g with stack := rest }).pushFrame (.throwing q))) := by
  obtain ⟨r0, r, hn, hrm, hstR, hsigR⟩ := Cond.declares_spec hdecl
  obtain ⟨cL, kL, r1, hcL, hkL, hiL, hfoundL, hn1⟩ := Cond.interfaceMethod_spec hface
  cases hn.symm.trans hn1
  have hr0cls : r0.cls = cL := Option.some.inj ((findClass_of_methodNamed hn).symm.trans hcL)
  obtain ⟨hnameR, hdescR⟩ := name_of_methodNamed hn hrm
  obtain ⟨mk, methM, hnamed, hmethM, -, habM⟩ := Cond.instanceMethod_spec hinst
  obtain ⟨c2, r2, m2, q1, q2, q3, q4, -⟩ := Cond.selects_spec hsel
  cases hcls.symm.trans q1
  cases hfoundL.symm.trans q2
  cases hnamed.symm.trans q3
  have hselP : selectMethod e.platform s.vm cellB.cls r0 = .method mk := by rw [Launch.admits_selectMethod X.admits]; exact q4
  have hpubM : hasFlag methM.accessFlags Acc.public_ = true := Cond.publicMethod_spec hnamed hmethM hpub
  have hway : ((cellB.cls :: s.vm.superclasses cellB.cls).any fun k => (declaredIn s.vm r.name r.desc k).any fun (_, z) => z.isPrivate || z.isStatic) = false := by
    rw [hnameR, hdescR]; exact Cond.unhidden_spec hcls hunh
  obtain ⟨c3, t3, w1, w2, w3⟩ := Cond.castable_spec hcast
  cases hcls.symm.trans w1
  cases hcL.symm.trans w2
  obtain ⟨vm₁, X₁, hstep₁⟩ := X.invokeinterface hexec hown hlink hn hrm hstR (by rw [hr0cls]; exact hkL) hiL hx (a := b) (cell := cellB) (kcell := kB) hcell
    (fun z h => by rw [h] at hobj; cases hobj) hkB (by rw [hr0cls]; exact w3) hselP hmethM hway hpubM habM (g := g) hg (argsL := argsL) (rest := rest) (hlen _ hsigR) hstack hdg
  rcases hK m meth c ⟨T.setVm vm₁, locs, cells, slots⟩ { g with stack := rest } (.invokeinterface index count) mk (Value.ref b :: argsL).toArray X₁ hg hsize hdg hW (X₁.named hnamed) (hpre vm₁ X₁.warmed) with ⟨v, B, X', hpost, hsteps⟩ | ⟨q, B, X', hpost, hsteps⟩
  · exact Or.inl ⟨v, vm₁, B, X₁.warmed, X', hpost, fun target h => hstep₁ _ fun acts => by rw [doInvoke_state]; exact hsteps.trans h⟩
  · exact Or.inr ⟨q, vm₁, B, X₁.warmed, X', hpost, hstep₁ _ fun acts => by rw [doInvoke_state]; exact hsteps⟩
theorem vx_runFW {x y : MethodName} {bytes cc : ByteArray} {maxL nL mc ms n index count : Nat} {ret : Option FieldType} {hh : List (Nat × Nat × Nat × Nat)} {ws : List Cond} {rm : Room} {Pc : Array Value → State → Prop} {Qc : Array Value → State → Outcome → State → Prop} {XC : String → State → State → Prop} {free : Addr → Prop} {Ts : List Cond} {own C : String} {cC : ClassId} {b : Addr} {As rest : List Value} {g : JFrame}
    (hat : ClassAt s C cC) (S : CallFix p m c cc nL s args Ts own) (hM : vx_Met l y ws rm Pc Qc XC mc ms free) (cw : va_CIW R s args own C index x y bytes maxL ret hh ws rm mc ms n) (hp : PreV s H C b Pc As)
    (hg : g.method = m) (hn : As.length = n) (hsize : g.locals.size = nL) (hstack : g.stack = As.reverse ++ .ref b :: rest) (hW : 2 * g.monitorRoom + (rest.map fun v => v.category).sum ≤ 8) (hdg : decode cc g.pc = .ok (.invokeinterface index count, 5)) (hf : cells + mc ≤ R.cells ∧ slots + ms ≤ R.slots) :
    vx_Run5 p l e R s m args below meth c H locs cells slots mc ms g rest (Qc (Value.ref b :: As).toArray) XC free := by
  obtain ⟨hrc, hrs, hfr, hlo, hws, hcw⟩ := cw.back
  have hini := cw.init
  have hK : vx_Back l R p e below s args y 5 8 (PreOf R mc ms Pc) (PostOf Qc mc ms free) (vx_Post XC mc ms free) := vx_backW (hh := hh) (bytes := bytes) (maxL := maxL) (ret := ret) hM hp.1 hrc hrs hfr hlo hws hcw (fun a' U hW => word_at hW (Or.inl (by first | rfl | simp [Cond.onTables, Cond.keeps, Cond.steady])) hini)
  obtain ⟨hx, hb, hml, ho, -⟩ := S
  obtain ⟨-, ⟨cellB, hcB, hoB, hclB⟩, hPc⟩ := hp
  obtain ⟨hfc, kB, hkB, -⟩ := hat
  cases hfc.symm.trans hclB
  intro T hT X
  rcases vx_callIFW X hx (C := C) (hh := hh) (bytes := bytes) (maxL := maxL) (ret := ret) ho cw.link cw.decl cw.face cw.sel cw.inst cw.pub cw.unh cw.cast cw.code cw.notMH hK (by rw [hT]; exact hcB) hoB hclB hkB hg (hsize.trans hml.symm) (argsL := As) (rest := rest) (fun sig h => hn.trans (cw.len sig h)) hstack hW (by rw [hb]; exact hdg)
    (fun vm₁ hW₁ => ⟨hf.1, hf.2, hPc (T.setVm vm₁) hT hW₁⟩) with ⟨v, vm₁, ⟨U', l2, c2, s2⟩, hW₁, X', ⟨g', mk, t, L, e1, e2, hq, h1, hL, h2, h3⟩, st⟩ | ⟨q, vm₁, ⟨U', l2, c2, s2⟩, hW₁, X', ⟨g', mk, t, L, E, ce, e1, e2, hq, hce, hcv, hcl, h1, hL, h2, h3⟩, st⟩
  · dsimp only [Pt.U, Pt.locs, Pt.cells, Pt.slots] at X' e1 e2 h1 h2 h3 st
    subst h1; subst h2; subst h3
    exact Or.inl ⟨v, (T.setVm vm₁).calling g' mk (Value.ref b :: As).toArray, t, U', L, hT, X', hL, e1, e2, hq, st⟩
  · dsimp only [Pt.U, Pt.locs, Pt.cells, Pt.slots] at X' e1 e2 h1 h2 h3 st hcl
    subst h1; subst h2; subst h3
    exact Or.inr ⟨q, (T.setVm vm₁).calling g' mk (Value.ref b :: As).toArray, t, U', L, E, ce, hT, X', hL, e1, e2, hq, hce, hcv, vx_cls hW₁ hcl, st⟩
end
/-! ===== END ===== -/
/-! ===== BEGIN .. of methods that hand back an object of the pool ===== -/
section
variable {p : Program} {l : Launch} {e : Env} {R : Room} {s : State} {m : MethodId} {args : Array Value} {below : List Frame} {meth : Method} {c : Code} {H : Heap} {locs : List Loc} {cells slots : Nat} {Q : State → Prop}
variable {mc ms : Nat} {free : Addr → Prop} {A0 A1 : Nat → Prop} {H0 : Heap} {a : Array Value} {pc : Nat} {ls : Array Slot} {st0 rest : List Value}
theorem vx_callq {S SX : Type} {post : Option Nat → S → Prop} {px : SX → Prop} {B : S → State → Prop} {BX : String → SX → State → Prop} {AX : Nat → Prop} (hr : vx_Run p l e R s m args below meth c H locs cells slots mc ms (F0 m pc ls st0) rest (va_Qq post B A1 a) (vx_X px BX AX) free) (hS : va_S A0 H0 H locs) (hA : ∀ q, q < H.size → A1 q → A0 q) (hf : ∀ q, free q → A0 q) (hAX : ∀ q, q < H.size → AX q → A0 q)
    (kx : ∀ (E : String) (ce : Cell) (q9 : Addr) (u : SX) (t : State) (H1 : Heap) (locs1 : List Loc), t.heap = H1 → s.vm.Alike t.vm → px u → BX E u t → H.size ≤ H1.size → (∀ q : Nat, q < H.size → ¬ AX q → H1[q]? = H[q]?) → va_S A0 H0 H1 locs1 → H1[q9]? = some ce → ce.vm = .none → s.vm.findClass E = some ce.cls → vx_W p l e R s m args below meth c H1 locs1 (cells + mc) (slots + ms) Q (F0 m pc ls rest) q9)
    (kk : ∀ (r : Option Nat) (u : S) (t : State) (H1 : Heap) (locs1 : List Loc), t.heap = H1 → s.vm.Alike t.vm → post r u → B u t → H.size ≤ H1.size → (∀ q : Nat, q < H.size → ¬ A1 q → H1[q]? = H[q]?) → va_S A0 H0 H1 locs1 → W p l e R s m args below meth c H1 locs1 (cells + mc) (slots + ms) Q (F0 m (pc + 3) ls (va_rf r :: rest))) : W p l e R s m args below meth c H locs cells slots Q (F0 m pc ls st0) := by
  intro T hT X
  rcases hr T hT X with ⟨v, st₀, t, T', L, h0, X', hL, e1, e2, ⟨⟨r, u, hv, hp, hb⟩, hF⟩, st⟩ | ⟨q, st₀, t, T', L, E, ce, h0, X', hL, e1, e2, ⟨u, hp, hb, hF⟩, hce, hcv, hcl, st⟩
  · cases hv
    obtain ⟨k1, k2, k3⟩ := vx_keep h0 e1 hS hA hf hL hF
    obtain ⟨t2, a1, b1⟩ := kk r u t T'.heap (locs ++ L) e1.symm (by rw [← e2]; exact X'.warmed.alike) hp hb k1 k2 k3 T' rfl X'
    exact ⟨t2, st t2 a1, b1⟩
  · obtain ⟨k1, k2, k3⟩ := vx_keep h0 e1 hS hAX hf hL hF
    obtain ⟨t2, a1, b1⟩ := kx E ce q u t T'.heap (locs ++ L) e1.symm (by rw [← e2]; exact X'.warmed.alike) hp hb k1 k2 k3 (by rw [e1]; exact hce) hcv hcl T' rfl X'
    exact ⟨t2, st.trans a1, b1⟩
end
/-! ===== END ===== -/
/-! ===== BEGIN .. a constant ===== -/
section
variable {p : Program} {l : Launch} {e : Env} {R : Room} {s : State} {m : MethodId} {args : Array Value} {below : List Frame} {meth : Method} {c : Code} {H : Heap} {locs : List Loc} {cells slots : Nat} {Q : State → Prop}
variable {mc ms : Nat} {free : Addr → Prop} {A0 A1 : Nat → Prop} {H0 : Heap} {a : Array Value} {pc : Nat} {ls : Array Slot} {st0 rest : List Value}
theorem vx_calle {ad : Nat → Nat} {S SX : Type} {post : Option Nat → S → Prop} {px : SX → Prop} {B : S → State → Prop} {BX : String → SX → State → Prop} {AX : Nat → Prop} (hr : vx_Run p l e R s m args below meth c H locs cells slots mc ms (F0 m pc ls st0) rest (va_Qe ad post B A1 a) (vx_X px BX AX) free) (hS : va_S A0 H0 H locs) (hA : ∀ q, q < H.size → A1 q → A0 q) (hf : ∀ q, free q → A0 q) (hAX : ∀ q, q < H.size → AX q → A0 q)
    (kx : ∀ (E : String) (ce : Cell) (q9 : Addr) (u : SX) (t : State) (H1 : Heap) (locs1 : List Loc), t.heap = H1 → s.vm.Alike t.vm → px u → BX E u t → H.size ≤ H1.size → (∀ q : Nat, q < H.size → ¬ AX q → H1[q]? = H[q]?) → va_S A0 H0 H1 locs1 → H1[q9]? = some ce → ce.vm = .none → s.vm.findClass E = some ce.cls → vx_W p l e R s m args below meth c H1 locs1 (cells + mc) (slots + ms) Q (F0 m pc ls rest) q9)
    (kk : ∀ (r : Option Nat) (u : S) (t : State) (H1 : Heap) (locs1 : List Loc), t.heap = H1 → s.vm.Alike t.vm → post r u → B u t → H.size ≤ H1.size → (∀ q : Nat, q < H.size → ¬ A1 q → H1[q]? = H[q]?) → va_S A0 H0 H1 locs1 → W p l e R s m args below meth c H1 locs1 (cells + mc) (slots + ms) Q (F0 m (pc + 3) ls (va_re ad r :: rest))) : W p l e R s m args below meth c H locs cells slots Q (F0 m pc ls st0) := by
  intro T hT X
  rcases hr T hT X with ⟨v, st₀, t, T', L, h0, X', hL, e1, e2, ⟨⟨r, u, hv, hp, hb⟩, hF⟩, st⟩ | ⟨q, st₀, t, T', L, E, ce, h0, X', hL, e1, e2, ⟨u, hp, hb, hF⟩, hce, hcv, hcl, st⟩
  · cases hv
    obtain ⟨k1, k2, k3⟩ := vx_keep h0 e1 hS hA hf hL hF
    obtain ⟨t2, a1, b1⟩ := kk r u t T'.heap (locs ++ L) e1.symm (by rw [← e2]; exact X'.warmed.alike) hp hb k1 k2 k3 T' rfl X'
    exact ⟨t2, st t2 a1, b1⟩
  · obtain ⟨k1, k2, k3⟩ := vx_keep h0 e1 hS hAX hf hL hF
    obtain ⟨t2, a1, b1⟩ := kx E ce q u t T'.heap (locs ++ L) e1.symm (by rw [← e2]; exact X'.warmed.alike) hp hb k1 k2 k3 (by rw [e1]; exact hce) hcv hcl T' rfl X'
    exact ⟨t2, st.trans a1, b1⟩
end
/-! ===== END ===== -/
/-! ===== BEGIN .. by an interface, an object ===== -/
section
variable {p : Program} {l : Launch} {e : Env} {R : Room} {s : State} {m : MethodId} {args : Array Value} {below : List Frame} {meth : Method} {c : Code} {H : Heap} {locs : List Loc} {cells slots : Nat} {Q : State → Prop}
variable {mc ms : Nat} {free : Addr → Prop} {A0 A1 : Nat → Prop} {H0 : Heap} {a : Array Value} {pc : Nat} {ls : Array Slot} {st0 rest : List Value}
theorem vx_callFq {S SX : Type} {post : Option Nat → S → Prop} {px : SX → Prop} {B : S → State → Prop} {BX : String → SX → State → Prop} {AX : Nat → Prop} (hr : vx_Run5 p l e R s m args below meth c H locs cells slots mc ms (F0 m pc ls st0) rest (va_Qq post B A1 a) (vx_X px BX AX) free) (hS : va_S A0 H0 H locs) (hA : ∀ q, q < H.size → A1 q → A0 q) (hf : ∀ q, free q → A0 q) (hAX : ∀ q, q < H.size → AX q → A0 q)
    (kx : ∀ (E : String) (ce : Cell) (q9 : Addr) (u : SX) (t : State) (H1 : Heap) (locs1 : List Loc), t.heap = H1 → s.vm.Alike t.vm → px u → BX E u t → H.size ≤ H1.size → (∀ q : Nat, q < H.size → ¬ AX q → H1[q]? = H[q]?) → va_S A0 H0 H1 locs1 → H1[q9]? = some ce → ce.vm = .none → s.vm.findClass E = some ce.cls → vx_W p l e R s m args below meth c H1 locs1 (cells + mc) (slots + ms) Q (F0 m pc ls rest) q9)
    (kk : ∀ (r : Option Nat) (u : S) (t : State) (H1 : Heap) (locs1 : List Loc), t.heap = H1 → s.vm.Alike t.vm → post r u → B u t → H.size ≤ H1.size → (∀ q : Nat, q < H.size → ¬ A1 q → H1[q]? = H[q]?) → va_S A0 H0 H1 locs1 → W p l e R s m args below meth c H1 locs1 (cells + mc) (slots + ms) Q (F0 m (pc + 5) ls (va_rf r :: rest))) : W p l e R s m args below meth c H locs cells slots Q (F0 m pc ls st0) := by
  intro T hT X
  rcases hr T hT X with ⟨v, st₀, t, T', L, h0, X', hL, e1, e2, ⟨⟨r, u, hv, hp, hb⟩, hF⟩, st⟩ | ⟨q, st₀, t, T', L, E, ce, h0, X', hL, e1, e2, ⟨u, hp, hb, hF⟩, hce, hcv, hcl, st⟩
  · cases hv
    obtain ⟨k1, k2, k3⟩ := vx_keep h0 e1 hS hA hf hL hF
    obtain ⟨t2, a1, b1⟩ := kk r u t T'.heap (locs ++ L) e1.symm (by rw [← e2]; exact X'.warmed.alike) hp hb k1 k2 k3 T' rfl X'
    exact ⟨t2, st t2 a1, b1⟩
  · obtain ⟨k1, k2, k3⟩ := vx_keep h0 e1 hS hAX hf hL hF
    obtain ⟨t2, a1, b1⟩ := kx E ce q u t T'.heap (locs ++ L) e1.symm (by rw [← e2]; exact X'.warmed.alike) hp hb k1 k2 k3 (by rw [e1]; exact hce) hcv hcl T' rfl X'
    exact ⟨t2, st.trans a1, b1⟩
end
/-! ===== END ===== -/
/-! ===== BEGIN .. by an interface, a constant ===== -/
section
variable {p : Program} {l : Launch} {e : Env} {R : Room} {s : State} {m : MethodId} {args : Array Value} {below : List Frame} {meth : Method} {c : Code} {H : Heap} {locs : List Loc} {cells slots : Nat} {Q : State → Prop}
variable {mc ms : Nat} {free : Addr → Prop} {A0 A1 : Nat → Prop} {H0 : Heap} {a : Array Value} {pc : Nat} {ls : Array Slot} {st0 rest : List Value}
theorem vx_callFe {ad : Nat → Nat} {S SX : Type} {post : Option Nat → S → Prop} {px : SX → Prop} {B : S → State → Prop} {BX : String → SX → State → Prop} {AX : Nat → Prop} (hr : vx_Run5 p l e R s m args below meth c H locs cells slots mc ms (F0 m pc ls st0) rest (va_Qe ad post B A1 a) (vx_X px BX AX) free) (hS : va_S A0 H0 H locs) (hA : ∀ q, q < H.size → A1 q → A0 q) (hf : ∀ q, free q → A0 q) (hAX : ∀ q, q < H.size → AX q → A0 q)
    (kx : ∀ (E : String) (ce : Cell) (q9 : Addr) (u : SX) (t : State) (H1 : Heap) (locs1 : List Loc), t.heap = H1 → s.vm.Alike t.vm → px u → BX E u t → H.size ≤ H1.size → (∀ q : Nat, q < H.size → ¬ AX q → H1[q]? = H[q]?) → va_S A0 H0 H1 locs1 → H1[q9]? = some ce → ce.vm = .none → s.vm.findClass E = some ce.cls → vx_W p l e R s m args below meth c H1 locs1 (cells + mc) (slots + ms) Q (F0 m pc ls rest) q9)
    (kk : ∀ (r : Option Nat) (u : S) (t : State) (H1 : Heap) (locs1 : List Loc), t.heap = H1 → s.vm.Alike t.vm → post r u → B u t → H.size ≤ H1.size → (∀ q : Nat, q < H.size → ¬ A1 q → H1[q]? = H[q]?) → va_S A0 H0 H1 locs1 → W p l e R s m args below meth c H1 locs1 (cells + mc) (slots + ms) Q (F0 m (pc + 5) ls (va_re ad r :: rest))) : W p l e R s m args below meth c H locs cells slots Q (F0 m pc ls st0) := by
  intro T hT X
  rcases hr T hT X with ⟨v, st₀, t, T', L, h0, X', hL, e1, e2, ⟨⟨r, u, hv, hp, hb⟩, hF⟩, st⟩ | ⟨q, st₀, t, T', L, E, ce, h0, X', hL, e1, e2, ⟨u, hp, hb, hF⟩, hce, hcv, hcl, st⟩
  · cases hv
    obtain ⟨k1, k2, k3⟩ := vx_keep h0 e1 hS hA hf hL hF
    obtain ⟨t2, a1, b1⟩ := kk r u t T'.heap (locs ++ L) e1.symm (by rw [← e2]; exact X'.warmed.alike) hp hb k1 k2 k3 T' rfl X'
    exact ⟨t2, st t2 a1, b1⟩
  · obtain ⟨k1, k2, k3⟩ := vx_keep h0 e1 hS hAX hf hL hF
    obtain ⟨t2, a1, b1⟩ := kx E ce q u t T'.heap (locs ++ L) e1.symm (by rw [← e2]; exact X'.warmed.alike) hp hb k1 k2 k3 (by rw [e1]; exact hce) hcv hcl T' rfl X'
    exact ⟨t2, st.trans a1, b1⟩
end
/-! ===== END ===== -/
/-! ===== BEGIN what the machine throws by itself: null at a field, at athrow ===== -/
section VXM2
variable {p : Program} {l : Launch} {e : Env} {R : Room} {s : State} {m : MethodId} {args : Array Value} {below : List Frame} {meth : Method} {c : Code} {H : Heap} {locs : List Loc} {cells slots : Nat}
variable {Q : State → Prop} {cc : ByteArray} {pc : Nat} {ls : Array Slot} {rest : List Value}
theorem vx_getfN {D cl tys} {own ref C : String} {T : u_T} {N ci index : Nat} {Ts : List Cond} (hexec : p.tables.exec = Jvm.exec) (hb : c.code = cc) (hts : ∀ w ∈ Ts, w.before args s = true) (hin : ∀ w ∈ u_ws C T N, w ∈ Ts) (hown : s.vm.findClass own = some m.cls) (hK : va_K D cl tys s) (hc : cl[ci]? = some (C, T, N)) (k : Nat) (hk : k < N) (hlink : (Cond.fieldLink own index ref (T k).2.1 (T k).2.2.1).before args s = true) (hsame : ∀ x, s.fieldFound? (T k).1 (T k).2.1 (T k).2.2.1 = some x → s.fieldFound? ref (T k).2.1 (T k).2.2.1 = some x) (hdg : decode cc pc = .ok (.getfield index, 3)) (kk : vx_NoteN p l e R s m args below meth c H locs cells slots Q (F0 m pc ls rest)) : W p l e R s m args below meth c H locs cells slots Q (F0 m pc ls (.null :: rest)) := by
  obtain ⟨hS, hfc, kC, hkC, -⟩ := hK.1 ci _ hc
  obtain ⟨cf, kf, fi, f, hi, -⟩ := hS k hk
  intro U hU X
  obtain ⟨vm', X1, st1⟩ := X.getfieldNull hexec hown hlink (hsame _ hi) (u_facts hfc hkC (u_lays hts hin hk) hi).1 (g := F0 m pc ls (.null :: rest)) rfl (rest := rest) rfl (by rw [hb]; exact hdg)
  obtain ⟨t, st, q⟩ := kk (U.setVm vm') hU X1
  exact ⟨t, st1 t st, q⟩
theorem vx_getfNN {D cl tys} {own ref C host : String} {T : u_T} {N ci index : Nat} {Ts : List Cond} (hexec : p.tables.exec = Jvm.exec) (hb : c.code = cc) (hts : ∀ w ∈ Ts, w.before args s = true) (hin : ∀ w ∈ u_ws C T N, w ∈ Ts) (hown : s.vm.findClass own = some m.cls) (hK : va_K D cl tys s) (hc : cl[ci]? = some (C, T, N)) (k : Nat) (hk : k < N) (hlink : (Cond.fieldLinkNest own index ref (T k).2.1 (T k).2.2.1 host).before args s = true) (hsame : ∀ x, s.fieldFound? (T k).1 (T k).2.1 (T k).2.2.1 = some x → s.fieldFound? ref (T k).2.1 (T k).2.2.1 = some x) (hdg : decode cc pc = .ok (.getfield index, 3)) (kk : vx_NoteN p l e R s m args below meth c H locs cells slots Q (F0 m pc ls rest)) : W p l e R s m args below meth c H locs cells slots Q (F0 m pc ls (.null :: rest)) := by
  obtain ⟨hS, hfc, kC, hkC, -⟩ := hK.1 ci _ hc
  obtain ⟨cf, kf, fi, f, hi, -⟩ := hS k hk
  intro U hU X
  obtain ⟨vm', X1, st1⟩ := X.getfieldNullNest hexec hown hlink (hsame _ hi) (u_facts hfc hkC (u_lays hts hin hk) hi).1 (g := F0 m pc ls (.null :: rest)) rfl (rest := rest) rfl (by rw [hb]; exact hdg)
  obtain ⟨t, st, q⟩ := kk (U.setVm vm') hU X1
  exact ⟨t, st1 t st, q⟩
theorem vx_putfN {D cl tys} {own ref C : String} {T : u_T} {N ci index : Nat} {Ts : List Cond} (hexec : p.tables.exec = Jvm.exec) (hb : c.code = cc) (hts : ∀ w ∈ Ts, w.before args s = true) (hin : ∀ w ∈ u_ws C T N, w ∈ Ts) (hown : s.vm.findClass own = some m.cls) (hK : va_K D cl tys s) (hc : cl[ci]? = some (C, T, N)) (k : Nat) (hk : k < N) (hlink : (Cond.fieldLink own index ref (T k).2.1 (T k).2.2.1).before args s = true) (hsame : ∀ x, s.fieldFound? (T k).1 (T k).2.1 (T k).2.2.1 = some x → s.fieldFound? ref (T k).2.1 (T k).2.2.1 = some x) (hfin : (T k).2.2.2 = false) {v : Value} (hdg : decode cc pc = .ok (.putfield index, 3)) (kk : vx_NoteN p l e R s m args below meth c H locs cells slots Q (F0 m pc ls rest)) : W p l e R s m args below meth c H locs cells slots Q (F0 m pc ls (v :: .null :: rest)) := by
  obtain ⟨hS, hfc, kC, hkC, -⟩ := hK.1 ci _ hc
  obtain ⟨cf, kf, fi, f, hi, -⟩ := hS k hk
  have hlay := hts _ (hin _ (u_in_lay hk))
  unfold u_lay at hlay
  rw [if_neg (by rw [hfin]; decide)] at hlay
  obtain ⟨c9, k9, cf9, kf9, fi9, f9, -, -, hi9, hst9, hnf9, -⟩ := Cond.lays_spec hlay
  cases hi.symm.trans hi9
  intro U hU X
  obtain ⟨vm', X1, st1⟩ := X.putfieldNull hexec hown hlink (hsame _ hi) hst9 hnf9 (g := F0 m pc ls (v :: .null :: rest)) rfl (v := v) (rest := rest) rfl (by rw [hb]; exact hdg)
  obtain ⟨t, st, q⟩ := kk (U.setVm vm') hU X1
  exact ⟨t, st1 t st, q⟩
theorem vx_putfNN {D cl tys} {own ref C host : String} {T : u_T} {N ci index : Nat} {Ts : List Cond} (hexec : p.tables.exec = Jvm.exec) (hb : c.code = cc) (hts : ∀ w ∈ Ts, w.before args s = true) (hin : ∀ w ∈ u_ws C T N, w ∈ Ts) (hown : s.vm.findClass own = some m.cls) (hK : va_K D cl tys s) (hc : cl[ci]? = some (C, T, N)) (k : Nat) (hk : k < N) (hlink : (Cond.fieldLinkNest own index ref (T k).2.1 (T k).2.2.1 host).before args s = true) (hsame : ∀ x, s.fieldFound? (T k).1 (T k).2.1 (T k).2.2.1 = some x → s.fieldFound? ref (T k).2.1 (T k).2.2.1 = some x) (hfin : (T k).2.2.2 = false) {v : Value} (hdg : decode cc pc = .ok (.putfield index, 3)) (kk : vx_NoteN p l e R s m args below meth c H locs cells slots Q (F0 m pc ls rest)) : W p l e R s m args below meth c H locs cells slots Q (F0 m pc ls (v :: .null :: rest)) := by
  obtain ⟨hS, hfc, kC, hkC, -⟩ := hK.1 ci _ hc
  obtain ⟨cf, kf, fi, f, hi, -⟩ := hS k hk
  have hlay := hts _ (hin _ (u_in_lay hk))
  unfold u_lay at hlay
  rw [if_neg (by rw [hfin]; decide)] at hlay
  obtain ⟨c9, k9, cf9, kf9, fi9, f9, -, -, hi9, hst9, hnf9, -⟩ := Cond.lays_spec hlay
  cases hi.symm.trans hi9
  intro U hU X
  obtain ⟨vm', X1, st1⟩ := X.putfieldNullNest hexec hown hlink (hsame _ hi) hst9 hnf9 (g := F0 m pc ls (v :: .null :: rest)) rfl (v := v) (rest := rest) rfl (by rw [hb]; exact hdg)
  obtain ⟨t, st, q⟩ := kk (U.setVm vm') hU X1
  exact ⟨t, st1 t st, q⟩
theorem vx_athrowN (hexec : p.tables.exec = Jvm.exec) (hb : c.code = cc) (hdg : decode cc pc = .ok (.athrow, 1)) (k : vx_NoteN p l e R s m args below meth c H locs cells slots Q (F0 m pc ls rest)) : W p l e R s m args below meth c H locs cells slots Q (F0 m pc ls (.null :: rest)) := by
  intro T hT X
  obtain ⟨t, st, q⟩ := k T hT X
  exact ⟨t, X.athrowNull hexec (g := F0 m pc ls (.null :: rest)) rfl (rest := rest) rfl (by rw [hb]; exact hdg) t st, q⟩
end VXM2
/-! ===== END ===== -/
end
section
/-! ===== BEGIN printed: names, fields, word lists, decode rows ===== -/
def RX0 : String := "MuleTrain$History"
def TX0 : u_T := fun k => match k with
  | 0 => ("MuleTrain$History", "before", "[LMuleTrain$Train;", true)
  | 1 => ("MuleTrain$History", "next", "I", false)
  | _ => ("MuleTrain$History", "size", "I", false)
def tyX0 : Nat → FieldType := fun k => match k with
  | 0 => .array (.object "MuleTrain$Train")
  | 1 => .int
  | _ => .int
abbrev wsX00 : List Cond := u_ws RX0 TX0 3
theorem nmX0 : ∀ a, a < 3 → ∀ b, b < 3 → a ≠ b → (TX0 a).2.1 ≠ (TX0 b).2.1 := by decide +kernel
theorem tyX0_ok : ∀ k, k < 3 → parseFieldDescriptor (TX0 k).2.2.1 = some (tyX0 k) := by decide +kernel
abbrev cX0_init : ByteArray := prog_2_method_1_code
def yX0_init : MethodName := ⟨RX0, "<init>", "()V"⟩
abbrev cX0_forget : ByteArray := prog_2_method_2_code
def yX0_forget : MethodName := ⟨RX0, "forget", "()V"⟩
abbrev cX0_remember : ByteArray := prog_2_method_3_code
def yX0_remember : MethodName := ⟨RX0, "remember", "(LMuleTrain$Train;)V"⟩
abbrev cX0_bringBack : ByteArray := prog_2_method_4_code
def yX0_bringBack : MethodName := ⟨RX0, "bringBack", "(LMuleTrain$Train;)V"⟩
def RX1 : String := "MuleTrain$Parser"
def TX1 : u_T := fun k => match k with
  | 0 => ("MuleTrain$Parser", "bytes", "[B", true)
  | 1 => ("MuleTrain$Parser", "train", "LMuleTrain$Train;", true)
  | 2 => ("MuleTrain$Parser", "fed", "I", false)
  | 3 => ("MuleTrain$Parser", "length", "I", false)
  | 4 => ("MuleTrain$Parser", "position", "I", false)
  | 5 => ("MuleTrain$Parser", "start", "I", false)
  | 6 => ("MuleTrain$Parser", "token", "I", false)
  | 7 => ("MuleTrain$Parser", "number", "I", false)
  | 8 => ("MuleTrain$Parser", "latestRunEnd", "I", false)
  | 9 => ("MuleTrain$Parser", "code", "I", false)
  | _ => ("MuleTrain$Parser", "errorAt", "I", false)
def tyX1 : Nat → FieldType := fun k => match k with
  | 0 => .array .byte
  | 1 => .object "MuleTrain$Train"
  | 2 => .int
  | 3 => .int
  | 4 => .int
  | 5 => .int
  | 6 => .int
  | 7 => .int
  | 8 => .int
  | 9 => .int
  | _ => .int
abbrev wsX10 : List Cond := u_ws RX1 TX1 11
theorem nmX1 : ∀ a, a < 11 → ∀ b, b < 11 → a ≠ b → (TX1 a).2.1 ≠ (TX1 b).2.1 := by decide +kernel
theorem tyX1_ok : ∀ k, k < 11 → parseFieldDescriptor (TX1 k).2.2.1 = some (tyX1 k) := by decide +kernel
abbrev cX1_init : ByteArray := prog_3_method_1_code
def yX1_init : MethodName := ⟨RX1, "<init>", "()V"⟩
abbrev cX1_writeFour : ByteArray := prog_3_method_2_code
def yX1_writeFour : MethodName := ⟨RX1, "writeFour", "(I)V"⟩
abbrev cX1_writeText : ByteArray := prog_3_method_3_code
def yX1_writeText : MethodName := ⟨RX1, "writeText", "(Ljava/lang/String;)V"⟩
abbrev cX1_writeByte : ByteArray := prog_3_method_4_code
def yX1_writeByte : MethodName := ⟨RX1, "writeByte", "(I)V"⟩
abbrev cX1_emptyText : ByteArray := prog_3_method_5_code
def yX1_emptyText : MethodName := ⟨RX1, "emptyText", "()V"⟩
abbrev cX1_parseText : ByteArray := prog_3_method_6_code
def yX1_parseText : MethodName := ⟨RX1, "parseText", "(I)V"⟩
abbrev cX1_beginText : ByteArray := prog_3_method_7_code
def yX1_beginText : MethodName := ⟨RX1, "beginText", "(I)V"⟩
abbrev cX1_noteError : ByteArray := prog_3_method_8_code
def yX1_noteError : MethodName := ⟨RX1, "noteError", "(I)V"⟩
abbrev cX1_parseHead : ByteArray := prog_3_method_9_code
def yX1_parseHead : MethodName := ⟨RX1, "parseHead", "()V"⟩
abbrev cX1_endLine : ByteArray := prog_3_method_10_code
def yX1_endLine : MethodName := ⟨RX1, "endLine", "()V"⟩
abbrev cX1_parseMule : ByteArray := prog_3_method_11_code
def yX1_parseMule : MethodName := ⟨RX1, "parseMule", "()V"⟩
abbrev cX1_parseSack : ByteArray := prog_3_method_12_code
def yX1_parseSack : MethodName := ⟨RX1, "parseSack", "()V"⟩
abbrev cX1_parseStage : ByteArray := prog_3_method_13_code
def yX1_parseStage : MethodName := ⟨RX1, "parseStage", "(I)V"⟩
abbrev cX1_parsePack : ByteArray := prog_3_method_14_code
def yX1_parsePack : MethodName := ⟨RX1, "parsePack", "()V"⟩
abbrev cX1_parseRest : ByteArray := prog_3_method_15_code
def yX1_parseRest : MethodName := ⟨RX1, "parseRest", "()V"⟩
abbrev cX1_parseNumber : ByteArray := prog_3_method_16_code
def yX1_parseNumber : MethodName := ⟨RX1, "parseNumber", "(II)I"⟩
abbrev cX1_parseName : ByteArray := prog_3_method_17_code
def yX1_parseName : MethodName := ⟨RX1, "parseName", "()V"⟩
abbrev cX1_parseKind : ByteArray := prog_3_method_18_code
def yX1_parseKind : MethodName := ⟨RX1, "parseKind", "()I"⟩
abbrev cX1_parseSide : ByteArray := prog_3_method_19_code
def yX1_parseSide : MethodName := ⟨RX1, "parseSide", "()I"⟩
abbrev cX1_muleOfName : ByteArray := prog_3_method_20_code
def yX1_muleOfName : MethodName := ⟨RX1, "muleOfName", "()I"⟩
abbrev cX1_isNameOf : ByteArray := prog_3_method_21_code
def yX1_isNameOf : MethodName := ⟨RX1, "isNameOf", "(I)Z"⟩
abbrev cX1_isWord : ByteArray := prog_3_method_22_code
def yX1_isWord : MethodName := ⟨RX1, "isWord", "(Ljava/lang/String;)Z"⟩
abbrev cX1_nextToken : ByteArray := prog_3_method_23_code
def yX1_nextToken : MethodName := ⟨RX1, "nextToken", "()V"⟩
abbrev cX1_skipBlanks : ByteArray := prog_3_method_24_code
def yX1_skipBlanks : MethodName := ⟨RX1, "skipBlanks", "()V"⟩
abbrev cX1_passRun : ByteArray := prog_3_method_25_code
def yX1_passRun : MethodName := ⟨RX1, "passRun", "()V"⟩
abbrev cX1_byteAt : ByteArray := prog_3_method_26_code
def yX1_byteAt : MethodName := ⟨RX1, "byteAt", "(I)I"⟩
abbrev cX1_sortOf : ByteArray := prog_3_method_27_code
def yX1_sortOf : MethodName := ⟨RX1, "sortOf", "(I)I"⟩
def RX2 : String := "MuleTrain$Rows"
def TX2 : u_T := fun k => match k with
  | 0 => ("MuleTrain$Rows", "width", "I", true)
  | 1 => ("MuleTrain$Rows", "cells", "[I", true)
  | _ => ("MuleTrain$Rows", "used", "I", false)
def tyX2 : Nat → FieldType := fun k => match k with
  | 0 => .int
  | 1 => .array .int
  | _ => .int
abbrev wsX20 : List Cond := u_ws RX2 TX2 3
theorem nmX2 : ∀ a, a < 3 → ∀ b, b < 3 → a ≠ b → (TX2 a).2.1 ≠ (TX2 b).2.1 := by decide +kernel
theorem tyX2_ok : ∀ k, k < 3 → parseFieldDescriptor (TX2 k).2.2.1 = some (tyX2 k) := by decide +kernel
abbrev cX2_init : ByteArray := prog_4_method_1_code
def yX2_init : MethodName := ⟨RX2, "<init>", "(II)V"⟩
abbrev cX2_isFull : ByteArray := prog_4_method_2_code
def yX2_isFull : MethodName := ⟨RX2, "isFull", "()Z"⟩
abbrev cX2_at : ByteArray := prog_4_method_3_code
def yX2_at : MethodName := ⟨RX2, "at", "(II)I"⟩
abbrev cX2_put : ByteArray := prog_4_method_4_code
def yX2_put : MethodName := ⟨RX2, "put", "(III)V"⟩
abbrev cX2_newRow : ByteArray := prog_4_method_5_code
def yX2_newRow : MethodName := ⟨RX2, "newRow", "()I"⟩
abbrev cX2_dropRow : ByteArray := prog_4_method_6_code
def yX2_dropRow : MethodName := ⟨RX2, "dropRow", "(I)V"⟩
abbrev cX2_emptyRows : ByteArray := prog_4_method_7_code
def yX2_emptyRows : MethodName := ⟨RX2, "emptyRows", "()V"⟩
abbrev cX2_copyRows : ByteArray := prog_4_method_8_code
def yX2_copyRows : MethodName := ⟨RX2, "copyRows", "(LMuleTrain$Rows;)V"⟩
def RX3 : String := "MuleTrain$Train"
def TX3 : u_T := fun k => match k with
  | 0 => ("MuleTrain$Train", "sacks", "LMuleTrain$Rows;", true)
  | 1 => ("MuleTrain$Train", "mules", "LMuleTrain$Rows;", true)
  | 2 => ("MuleTrain$Train", "stages", "LMuleTrain$Rows;", true)
  | 3 => ("MuleTrain$Train", "settings", "[I", true)
  | 4 => ("MuleTrain$Train", "counts", "[I", true)
  | 5 => ("MuleTrain$Train", "day", "I", false)
  | _ => ("MuleTrain$Train", "money", "I", false)
def tyX3 : Nat → FieldType := fun k => match k with
  | 0 => .object "MuleTrain$Rows"
  | 1 => .object "MuleTrain$Rows"
  | 2 => .object "MuleTrain$Rows"
  | 3 => .array .int
  | 4 => .array .int
  | 5 => .int
  | _ => .int
abbrev wsX30 : List Cond := u_ws RX3 TX3 7
theorem nmX3 : ∀ a, a < 7 → ∀ b, b < 7 → a ≠ b → (TX3 a).2.1 ≠ (TX3 b).2.1 := by decide +kernel
theorem tyX3_ok : ∀ k, k < 7 → parseFieldDescriptor (TX3 k).2.2.1 = some (tyX3 k) := by decide +kernel
abbrev cX3_init : ByteArray := prog_5_method_1_code
def yX3_init : MethodName := ⟨RX3, "<init>", "()V"⟩
abbrev cX3_become : ByteArray := prog_5_method_2_code
def yX3_become : MethodName := ⟨RX3, "become", "(LMuleTrain$Train;)V"⟩
abbrev cX3_beginAnew : ByteArray := prog_5_method_3_code
def yX3_beginAnew : MethodName := ⟨RX3, "beginAnew", "()V"⟩
abbrev cX3_newSack : ByteArray := prog_5_method_4_code
def yX3_newSack : MethodName := ⟨RX3, "newSack", "(III)I"⟩
abbrev cX3_newStage : ByteArray := prog_5_method_5_code
def yX3_newStage : MethodName := ⟨RX3, "newStage", "(II)I"⟩
abbrev cX3_letterOf : ByteArray := prog_5_method_6_code
def yX3_letterOf : MethodName := ⟨RX3, "letterOf", "(II)I"⟩
abbrev cX3_sacksIn : ByteArray := prog_5_method_7_code
def yX3_sacksIn : MethodName := ⟨RX3, "sacksIn", "(I)I"⟩
abbrev cX3_miles : ByteArray := prog_5_method_8_code
def yX3_miles : MethodName := ⟨RX3, "miles", "()I"⟩
abbrev cX3_tiredTogether : ByteArray := prog_5_method_9_code
def yX3_tiredTogether : MethodName := ⟨RX3, "tiredTogether", "()I"⟩
abbrev cX3_bearing : ByteArray := prog_5_method_10_code
def yX3_bearing : MethodName := ⟨RX3, "bearing", "(I)I"⟩
abbrev cX3_fordLimit : ByteArray := prog_5_method_11_code
def yX3_fordLimit : MethodName := ⟨RX3, "fordLimit", "(II)I"⟩
abbrev cX3_weightOn : ByteArray := prog_5_method_12_code
def yX3_weightOn : MethodName := ⟨RX3, "weightOn", "(II)I"⟩
abbrev cX3_loadOn : ByteArray := prog_5_method_13_code
def yX3_loadOn : MethodName := ⟨RX3, "loadOn", "(I)I"⟩
abbrev cX3_worthOn : ByteArray := prog_5_method_14_code
def yX3_worthOn : MethodName := ⟨RX3, "worthOn", "(I)I"⟩
abbrev cX3_sacksOn : ByteArray := prog_5_method_15_code
def yX3_sacksOn : MethodName := ⟨RX3, "sacksOn", "(I)I"⟩
abbrev cX3_leftward : ByteArray := prog_5_method_16_code
def yX3_leftward : MethodName := ⟨RX3, "leftward", "(I)I"⟩
abbrev cX3_isLevel : ByteArray := prog_5_method_17_code
def yX3_isLevel : MethodName := ⟨RX3, "isLevel", "(I)Z"⟩
abbrev cX3_lighterSide : ByteArray := prog_5_method_18_code
def yX3_lighterSide : MethodName := ⟨RX3, "lighterSide", "(I)I"⟩
abbrev cX3_worthGap : ByteArray := prog_5_method_19_code
def yX3_worthGap : MethodName := ⟨RX3, "worthGap", "()I"⟩
abbrev cX3_moneyGap : ByteArray := prog_5_method_20_code
def yX3_moneyGap : MethodName := ⟨RX3, "moneyGap", "()I"⟩
abbrev cX3_overload : ByteArray := prog_5_method_21_code
def yX3_overload : MethodName := ⟨RX3, "overload", "()I"⟩
abbrev cX3_reasonNotToPack : ByteArray := prog_5_method_22_code
def yX3_reasonNotToPack : MethodName := ⟨RX3, "reasonNotToPack", "(II)I"⟩
abbrev cX3_reasonNotToGo : ByteArray := prog_5_method_23_code
def yX3_reasonNotToGo : MethodName := ⟨RX3, "reasonNotToGo", "()I"⟩
abbrev cX3_mayTravel : ByteArray := prog_5_method_24_code
def yX3_mayTravel : MethodName := ⟨RX3, "mayTravel", "()Z"⟩
abbrev cX3_firstUnlevel : ByteArray := prog_5_method_25_code
def yX3_firstUnlevel : MethodName := ⟨RX3, "firstUnlevel", "()I"⟩
abbrev cX3_mulesWithSacks : ByteArray := prog_5_method_26_code
def yX3_mulesWithSacks : MethodName := ⟨RX3, "mulesWithSacks", "()I"⟩
abbrev cX3_bestFor : ByteArray := prog_5_method_27_code
def yX3_bestFor : MethodName := ⟨RX3, "bestFor", "(I)I"⟩
abbrev cX3_isBetter : ByteArray := prog_5_method_28_code
def yX3_isBetter : MethodName := ⟨RX3, "isBetter", "(II)Z"⟩
abbrev cX3_putOn : ByteArray := prog_5_method_29_code
def yX3_putOn : MethodName := ⟨RX3, "putOn", "(III)V"⟩
abbrev cX3_takeOff : ByteArray := prog_5_method_30_code
def yX3_takeOff : MethodName := ⟨RX3, "takeOff", "(II)V"⟩
abbrev cX3_packBest : ByteArray := prog_5_method_31_code
def yX3_packBest : MethodName := ⟨RX3, "packBest", "(I)I"⟩
abbrev cX3_stayFor : ByteArray := prog_5_method_32_code
def yX3_stayFor : MethodName := ⟨RX3, "stayFor", "(I)V"⟩
abbrev cX3_easeBy : ByteArray := prog_5_method_33_code
def yX3_easeBy : MethodName := ⟨RX3, "easeBy", "(II)V"⟩
abbrev cX3_travel : ByteArray := prog_5_method_34_code
def yX3_travel : MethodName := ⟨RX3, "travel", "()I"⟩
abbrev cX3_goRoad : ByteArray := prog_5_method_35_code
def yX3_goRoad : MethodName := ⟨RX3, "goRoad", "(II)V"⟩
abbrev cX3_crossFord : ByteArray := prog_5_method_36_code
def yX3_crossFord : MethodName := ⟨RX3, "crossFord", "(II)V"⟩
abbrev cX3_wetSack : ByteArray := prog_5_method_37_code
def yX3_wetSack : MethodName := ⟨RX3, "wetSack", "(I)V"⟩
abbrev cX3_shedTo : ByteArray := prog_5_method_38_code
def yX3_shedTo : MethodName := ⟨RX3, "shedTo", "(II)Z"⟩
abbrev cX3_leastOn : ByteArray := prog_5_method_39_code
def yX3_leastOn : MethodName := ⟨RX3, "leastOn", "(I)I"⟩
abbrev cX3_deliverLoads : ByteArray := prog_5_method_40_code
def yX3_deliverLoads : MethodName := ⟨RX3, "deliverLoads", "()V"⟩
abbrev cX3_payWages : ByteArray := prog_5_method_41_code
def yX3_payWages : MethodName := ⟨RX3, "payWages", "(I)V"⟩
def RX4 : String := "MuleTrain"
def TX4 : u_T := fun k => match k with
  | 0 => ("MuleTrain", "now", "LMuleTrain$Train;", true)
  | 1 => ("MuleTrain", "whatIf", "LMuleTrain$Train;", true)
  | 2 => ("MuleTrain", "history", "LMuleTrain$History;", true)
  | 3 => ("MuleTrain", "saved", "[LMuleTrain$Train;", true)
  | 4 => ("MuleTrain", "isSaved", "[Z", true)
  | 5 => ("MuleTrain", "parser", "LMuleTrain$Parser;", true)
  | 6 => ("MuleTrain", "output", "Ljava/lang/StringBuilder;", true)
  | _ => ("MuleTrain", "bestWithin", "[I", true)
def tyX4 : Nat → FieldType := fun k => match k with
  | 0 => .object "MuleTrain$Train"
  | 1 => .object "MuleTrain$Train"
  | 2 => .object "MuleTrain$History"
  | 3 => .array (.object "MuleTrain$Train")
  | 4 => .array .boolean
  | 5 => .object "MuleTrain$Parser"
  | 6 => .object "java/lang/StringBuilder"
  | _ => .array .int
abbrev wsX40 : List Cond := u_ws RX4 TX4 8
theorem nmX4 : ∀ a, a < 8 → ∀ b, b < 8 → a ≠ b → (TX4 a).2.1 ≠ (TX4 b).2.1 := by decide +kernel
theorem tyX4_ok : ∀ k, k < 8 → parseFieldDescriptor (TX4 k).2.2.1 = some (tyX4 k) := by decide +kernel
abbrev cX4_init : ByteArray := prog_1_method_1_code
def yX4_init : MethodName := ⟨RX4, "<init>", "()V"⟩
abbrev cX4_feed : ByteArray := prog_1_method_2_code
def yX4_feed : MethodName := ⟨RX4, "feed", "(IIIII)I"⟩
abbrev cX4_load : ByteArray := prog_1_method_3_code
def yX4_load : MethodName := ⟨RX4, "load", "(I)I"⟩
abbrev cX4_errorCode : ByteArray := prog_1_method_4_code
def yX4_errorCode : MethodName := ⟨RX4, "errorCode", "()I"⟩
abbrev cX4_errorPosition : ByteArray := prog_1_method_5_code
def yX4_errorPosition : MethodName := ⟨RX4, "errorPosition", "()I"⟩
abbrev cX4_value : ByteArray := prog_1_method_6_code
def yX4_value : MethodName := ⟨RX4, "value", "(I)I"⟩
abbrev cX4_setting : ByteArray := prog_1_method_7_code
def yX4_setting : MethodName := ⟨RX4, "setting", "(I)I"⟩
abbrev cX4_count : ByteArray := prog_1_method_8_code
def yX4_count : MethodName := ⟨RX4, "count", "(I)I"⟩
abbrev cX4_mule : ByteArray := prog_1_method_9_code
def yX4_mule : MethodName := ⟨RX4, "mule", "(II)I"⟩
abbrev cX4_muleFact : ByteArray := prog_1_method_10_code
def yX4_muleFact : MethodName := ⟨RX4, "muleFact", "(II)I"⟩
abbrev cX4_nameByte : ByteArray := prog_1_method_11_code
def yX4_nameByte : MethodName := ⟨RX4, "nameByte", "(II)I"⟩
abbrev cX4_sack : ByteArray := prog_1_method_12_code
def yX4_sack : MethodName := ⟨RX4, "sack", "(II)I"⟩
abbrev cX4_stage : ByteArray := prog_1_method_13_code
def yX4_stage : MethodName := ⟨RX4, "stage", "(II)I"⟩
abbrev cX4_gap : ByteArray := prog_1_method_14_code
def yX4_gap : MethodName := ⟨RX4, "gap", "()I"⟩
abbrev cX4_whyNot : ByteArray := prog_1_method_15_code
def yX4_whyNot : MethodName := ⟨RX4, "whyNot", "(II)I"⟩
abbrev cX4_whyNoTrip : ByteArray := prog_1_method_16_code
def yX4_whyNoTrip : MethodName := ⟨RX4, "whyNoTrip", "(I)I"⟩
abbrev cX4_tripBrings : ByteArray := prog_1_method_17_code
def yX4_tripBrings : MethodName := ⟨RX4, "tripBrings", "()I"⟩
abbrev cX4_fate : ByteArray := prog_1_method_18_code
def yX4_fate : MethodName := ⟨RX4, "fate", "(I)I"⟩
abbrev cX4_tiredBy : ByteArray := prog_1_method_19_code
def yX4_tiredBy : MethodName := ⟨RX4, "tiredBy", "(I)I"⟩
abbrev cX4_bestWorth : ByteArray := prog_1_method_20_code
def yX4_bestWorth : MethodName := ⟨RX4, "bestWorth", "(I)I"⟩
abbrev cX4_offerSack : ByteArray := prog_1_method_21_code
def yX4_offerSack : MethodName := ⟨RX4, "offerSack", "(III)V"⟩
abbrev cX4_bestSack : ByteArray := prog_1_method_22_code
def yX4_bestSack : MethodName := ⟨RX4, "bestSack", "(I)I"⟩
abbrev cX4_lighter : ByteArray := prog_1_method_23_code
def yX4_lighter : MethodName := ⟨RX4, "lighter", "(I)I"⟩
abbrev cX4_freshIn : ByteArray := prog_1_method_24_code
def yX4_freshIn : MethodName := ⟨RX4, "freshIn", "(I)I"⟩
abbrev cX4_deepest : ByteArray := prog_1_method_25_code
def yX4_deepest : MethodName := ⟨RX4, "deepest", "(I)I"⟩
abbrev cX4_worthOfLoads : ByteArray := prog_1_method_26_code
def yX4_worthOfLoads : MethodName := ⟨RX4, "worthOfLoads", "()D"⟩
abbrev cX4_filled : ByteArray := prog_1_method_27_code
def yX4_filled : MethodName := ⟨RX4, "filled", "(I)F"⟩
abbrev cX4_pack : ByteArray := prog_1_method_28_code
def yX4_pack : MethodName := ⟨RX4, "pack", "(III)I"⟩
abbrev cX4_unpack : ByteArray := prog_1_method_29_code
def yX4_unpack : MethodName := ⟨RX4, "unpack", "(I)I"⟩
abbrev cX4_fill : ByteArray := prog_1_method_30_code
def yX4_fill : MethodName := ⟨RX4, "fill", "(I)I"⟩
abbrev cX4_shift : ByteArray := prog_1_method_31_code
def yX4_shift : MethodName := ⟨RX4, "shift", "(I)I"⟩
abbrev cX4_trip : ByteArray := prog_1_method_32_code
def yX4_trip : MethodName := ⟨RX4, "trip", "()I"⟩
abbrev cX4_rest : ByteArray := prog_1_method_33_code
def yX4_rest : MethodName := ⟨RX4, "rest", "(I)I"⟩
abbrev cX4_addSack : ByteArray := prog_1_method_34_code
def yX4_addSack : MethodName := ⟨RX4, "addSack", "(III)I"⟩
abbrev cX4_addStage : ByteArray := prog_1_method_35_code
def yX4_addStage : MethodName := ⟨RX4, "addStage", "(II)I"⟩
abbrev cX4_dropStage : ByteArray := prog_1_method_36_code
def yX4_dropStage : MethodName := ⟨RX4, "dropStage", "(I)I"⟩
abbrev cX4_set : ByteArray := prog_1_method_37_code
def yX4_set : MethodName := ⟨RX4, "set", "(II)I"⟩
abbrev cX4_restore : ByteArray := prog_1_method_38_code
def yX4_restore : MethodName := ⟨RX4, "restore", "(I)I"⟩
abbrev cX4_undo : ByteArray := prog_1_method_39_code
def yX4_undo : MethodName := ⟨RX4, "undo", "()I"⟩
abbrev cX4_save : ByteArray := prog_1_method_40_code
def yX4_save : MethodName := ⟨RX4, "save", "(I)I"⟩
abbrev cX4_writeMule : ByteArray := prog_1_method_41_code
def yX4_writeMule : MethodName := ⟨RX4, "writeMule", "(I)I"⟩
abbrev cX4_writeSide : ByteArray := prog_1_method_42_code
def yX4_writeSide : MethodName := ⟨RX4, "writeSide", "(II)V"⟩
abbrev cX4_writeWay : ByteArray := prog_1_method_43_code
def yX4_writeWay : MethodName := ⟨RX4, "writeWay", "()I"⟩
abbrev cX4_outputByte : ByteArray := prog_1_method_44_code
def yX4_outputByte : MethodName := ⟨RX4, "outputByte", "(I)I"⟩
abbrev cX4_requireMule : ByteArray := prog_1_method_45_code
def yX4_requireMule : MethodName := ⟨RX4, "requireMule", "(I)V"⟩
abbrev cX4_requireSack : ByteArray := prog_1_method_46_code
def yX4_requireSack : MethodName := ⟨RX4, "requireSack", "(I)V"⟩
abbrev cX4_requireStage : ByteArray := prog_1_method_47_code
def yX4_requireStage : MethodName := ⟨RX4, "requireStage", "(I)V"⟩
abbrev cX4_requireSetting : ByteArray := prog_1_method_48_code
def yX4_requireSetting : MethodName := ⟨RX4, "requireSetting", "(I)V"⟩
abbrev cX4_requireSlot : ByteArray := prog_1_method_49_code
def yX4_requireSlot : MethodName := ⟨RX4, "requireSlot", "(I)V"⟩
abbrev cX4_requireOnMule : ByteArray := prog_1_method_50_code
def yX4_requireOnMule : MethodName := ⟨RX4, "requireOnMule", "(I)V"⟩
abbrev cX4_mostOfSetting : ByteArray := prog_1_method_51_code
def yX4_mostOfSetting : MethodName := ⟨RX4, "mostOfSetting", "(I)I"⟩
abbrev cX4_mostOfStage : ByteArray := prog_1_method_52_code
def yX4_mostOfStage : MethodName := ⟨RX4, "mostOfStage", "(I)I"⟩
abbrev cX4_stageWord : ByteArray := prog_1_method_53_code
def yX4_stageWord : MethodName := ⟨RX4, "stageWord", "(I)Ljava/lang/String;"⟩
def RX5 : String := "MuleTrainModel"
def TX5 : u_T := fun k => match k with
  | 0 => ("MuleTrainModel", "highs", "[I", true)
  | 1 => ("MuleTrainModel", "numberMost", "[I", true)
  | 2 => ("MuleTrainModel", "keys", "[I", true)
  | 3 => ("MuleTrainModel", "thrown", "I", false)
  | 4 => ("MuleTrainModel", "now", "[I", true)
  | 5 => ("MuleTrainModel", "aside", "[I", true)
  | 6 => ("MuleTrainModel", "old", "[I", true)
  | 7 => ("MuleTrainModel", "oldMany", "I", false)
  | 8 => ("MuleTrainModel", "saved", "[I", true)
  | 9 => ("MuleTrainModel", "savedSet", "I", false)
  | 10 => ("MuleTrainModel", "goes", "[I", true)
  | 11 => ("MuleTrainModel", "most", "[I", true)
  | 12 => ("MuleTrainModel", "input", "[B", true)
  | 13 => ("MuleTrainModel", "inputMany", "I", false)
  | 14 => ("MuleTrainModel", "output", "[B", true)
  | 15 => ("MuleTrainModel", "outputMany", "I", false)
  | 16 => ("MuleTrainModel", "errorCode", "I", false)
  | 17 => ("MuleTrainModel", "errorPosition", "I", false)
  | 18 => ("MuleTrainModel", "textEnd", "I", false)
  | 19 => ("MuleTrainModel", "kind", "I", false)
  | 20 => ("MuleTrainModel", "from", "I", false)
  | 21 => ("MuleTrainModel", "to", "I", false)
  | 22 => ("MuleTrainModel", "value", "I", false)
  | 23 => ("MuleTrainModel", "fault", "I", false)
  | _ => ("MuleTrainModel", "faultAt", "I", false)
def tyX5 : Nat → FieldType := fun k => match k with
  | 0 => .array .int
  | 1 => .array .int
  | 2 => .array .int
  | 3 => .int
  | 4 => .array .int
  | 5 => .array .int
  | 6 => .array .int
  | 7 => .int
  | 8 => .array .int
  | 9 => .int
  | 10 => .array .int
  | 11 => .array .int
  | 12 => .array .byte
  | 13 => .int
  | 14 => .array .byte
  | 15 => .int
  | 16 => .int
  | 17 => .int
  | 18 => .int
  | 19 => .int
  | 20 => .int
  | 21 => .int
  | 22 => .int
  | 23 => .int
  | _ => .int
abbrev wsX50 : List Cond := u_ws RX5 TX5 25
theorem nmX5 : ∀ a, a < 25 → ∀ b, b < 25 → a ≠ b → (TX5 a).2.1 ≠ (TX5 b).2.1 := by decide +kernel
theorem tyX5_ok : ∀ k, k < 25 → parseFieldDescriptor (TX5 k).2.2.1 = some (tyX5 k) := by decide +kernel
abbrev cX5_init : ByteArray := prog_7_method_1_code
def yX5_init : MethodName := ⟨RX5, "<init>", "()V"⟩
abbrev cX5_begins : ByteArray := prog_7_method_2_code
def yX5_begins : MethodName := ⟨RX5, "begins", "(II)V"⟩
abbrev cX5_thrown : ByteArray := prog_7_method_3_code
def yX5_thrown : MethodName := ⟨RX5, "thrown", "()I"⟩
abbrev cX5_refuse : ByteArray := prog_7_method_4_code
def yX5_refuse : MethodName := ⟨RX5, "refuse", "(I)I"⟩
abbrev cX5_told : ByteArray := prog_7_method_5_code
def yX5_told : MethodName := ⟨RX5, "told", "(I)I"⟩
abbrev cX5_in : ByteArray := prog_7_method_6_code
def yX5_in : MethodName := ⟨RX5, "in", "(III)Z"⟩
abbrev cX5_without : ByteArray := prog_7_method_7_code
def yX5_without : MethodName := ⟨RX5, "without", "(I)I"⟩
abbrev cX5_m : ByteArray := prog_7_method_8_code
def yX5_m : MethodName := ⟨RX5, "m", "(I)I"⟩
abbrev cX5_s : ByteArray := prog_7_method_9_code
def yX5_s : MethodName := ⟨RX5, "s", "(I)I"⟩
abbrev cX5_t : ByteArray := prog_7_method_10_code
def yX5_t : MethodName := ⟨RX5, "t", "(I)I"⟩
abbrev cX5_isMule : ByteArray := prog_7_method_11_code
def yX5_isMule : MethodName := ⟨RX5, "isMule", "(I)Z"⟩
abbrev cX5_isSack : ByteArray := prog_7_method_12_code
def yX5_isSack : MethodName := ⟨RX5, "isSack", "(I)Z"⟩
abbrev cX5_isStage : ByteArray := prog_7_method_13_code
def yX5_isStage : MethodName := ⟨RX5, "isStage", "(I)Z"⟩
abbrev cX5_counts : ByteArray := prog_7_method_14_code
def yX5_counts : MethodName := ⟨RX5, "counts", "(II)V"⟩
abbrev cX5_brings : ByteArray := prog_7_method_15_code
def yX5_brings : MethodName := ⟨RX5, "brings", "(III)V"⟩
abbrev cX5_leads : ByteArray := prog_7_method_16_code
def yX5_leads : MethodName := ⟨RX5, "leads", "(II)V"⟩
abbrev cX5_worthOf : ByteArray := prog_7_method_17_code
def yX5_worthOf : MethodName := ⟨RX5, "worthOf", "(I)I"⟩
abbrev cX5_weightOf : ByteArray := prog_7_method_18_code
def yX5_weightOf : MethodName := ⟨RX5, "weightOf", "(I)I"⟩
abbrev cX5_isOn : ByteArray := prog_7_method_19_code
def yX5_isOn : MethodName := ⟨RX5, "isOn", "(II)Z"⟩
abbrev cX5_isPacked : ByteArray := prog_7_method_20_code
def yX5_isPacked : MethodName := ⟨RX5, "isPacked", "(I)Z"⟩
abbrev cX5_weightOn : ByteArray := prog_7_method_21_code
def yX5_weightOn : MethodName := ⟨RX5, "weightOn", "(II)I"⟩
abbrev cX5_loadOf : ByteArray := prog_7_method_22_code
def yX5_loadOf : MethodName := ⟨RX5, "loadOf", "(I)I"⟩
abbrev cX5_sacksOn : ByteArray := prog_7_method_23_code
def yX5_sacksOn : MethodName := ⟨RX5, "sacksOn", "(I)I"⟩
abbrev cX5_bears : ByteArray := prog_7_method_24_code
def yX5_bears : MethodName := ⟨RX5, "bears", "(I)I"⟩
abbrev cX5_tilt : ByteArray := prog_7_method_25_code
def yX5_tilt : MethodName := ⟨RX5, "tilt", "(I)I"⟩
abbrev cX5_isLevel : ByteArray := prog_7_method_26_code
def yX5_isLevel : MethodName := ⟨RX5, "isLevel", "(I)Z"⟩
abbrev cX5_packReason : ByteArray := prog_7_method_27_code
def yX5_packReason : MethodName := ⟨RX5, "packReason", "(II)I"⟩
abbrev cX5_packs : ByteArray := prog_7_method_28_code
def yX5_packs : MethodName := ⟨RX5, "packs", "(III)V"⟩
abbrev cX5_leaves : ByteArray := prog_7_method_29_code
def yX5_leaves : MethodName := ⟨RX5, "leaves", "(II)V"⟩
abbrev cX5_poorestOn : ByteArray := prog_7_method_30_code
def yX5_poorestOn : MethodName := ⟨RX5, "poorestOn", "(I)I"⟩
abbrev cX5_sheds : ByteArray := prog_7_method_31_code
def yX5_sheds : MethodName := ⟨RX5, "sheds", "(II)I"⟩
abbrev cX5_tires : ByteArray := prog_7_method_32_code
def yX5_tires : MethodName := ⟨RX5, "tires", "(II)V"⟩
abbrev cX5_roads : ByteArray := prog_7_method_33_code
def yX5_roads : MethodName := ⟨RX5, "roads", "(II)V"⟩
abbrev cX5_breaks : ByteArray := prog_7_method_34_code
def yX5_breaks : MethodName := ⟨RX5, "breaks", "(I)V"⟩
abbrev cX5_wetWorth : ByteArray := prog_7_method_35_code
def yX5_wetWorth : MethodName := ⟨RX5, "wetWorth", "(II)I"⟩
abbrev cX5_wets : ByteArray := prog_7_method_36_code
def yX5_wets : MethodName := ⟨RX5, "wets", "(I)V"⟩
abbrev cX5_fordLimit : ByteArray := prog_7_method_37_code
def yX5_fordLimit : MethodName := ⟨RX5, "fordLimit", "(II)I"⟩
abbrev cX5_fords : ByteArray := prog_7_method_38_code
def yX5_fords : MethodName := ⟨RX5, "fords", "(II)V"⟩
abbrev cX5_passes : ByteArray := prog_7_method_39_code
def yX5_passes : MethodName := ⟨RX5, "passes", "(II)V"⟩
abbrev cX5_delivers : ByteArray := prog_7_method_40_code
def yX5_delivers : MethodName := ⟨RX5, "delivers", "()V"⟩
abbrev cX5_trips : ByteArray := prog_7_method_41_code
def yX5_trips : MethodName := ⟨RX5, "trips", "()V"⟩
abbrev cX5_firstTilted : ByteArray := prog_7_method_42_code
def yX5_firstTilted : MethodName := ⟨RX5, "firstTilted", "()I"⟩
abbrev cX5_isAnyPacked : ByteArray := prog_7_method_43_code
def yX5_isAnyPacked : MethodName := ⟨RX5, "isAnyPacked", "()Z"⟩
abbrev cX5_tripReason : ByteArray := prog_7_method_44_code
def yX5_tripReason : MethodName := ⟨RX5, "tripReason", "()I"⟩
abbrev cX5_rests : ByteArray := prog_7_method_45_code
def yX5_rests : MethodName := ⟨RX5, "rests", "(I)V"⟩
abbrev cX5_remembers : ByteArray := prog_7_method_46_code
def yX5_remembers : MethodName := ⟨RX5, "remembers", "()V"⟩
abbrev cX5_putsAside : ByteArray := prog_7_method_47_code
def yX5_putsAside : MethodName := ⟨RX5, "putsAside", "()V"⟩
abbrev cX5_putsBack : ByteArray := prog_7_method_48_code
def yX5_putsBack : MethodName := ⟨RX5, "putsBack", "()V"⟩
abbrev cX5_isLetter : ByteArray := prog_7_method_49_code
def yX5_isLetter : MethodName := ⟨RX5, "isLetter", "(I)Z"⟩
abbrev cX5_isDigit : ByteArray := prog_7_method_50_code
def yX5_isDigit : MethodName := ⟨RX5, "isDigit", "(I)Z"⟩
abbrev cX5_next : ByteArray := prog_7_method_51_code
def yX5_next : MethodName := ⟨RX5, "next", "()V"⟩
abbrev cX5_errs : ByteArray := prog_7_method_52_code
def yX5_errs : MethodName := ⟨RX5, "errs", "(I)V"⟩
abbrev cX5_isKey : ByteArray := prog_7_method_53_code
def yX5_isKey : MethodName := ⟨RX5, "isKey", "(I)Z"⟩
abbrev cX5_goesOn : ByteArray := prog_7_method_54_code
def yX5_goesOn : MethodName := ⟨RX5, "goesOn", "()V"⟩
abbrev cX5_here : ByteArray := prog_7_method_55_code
def yX5_here : MethodName := ⟨RX5, "here", "(II)I"⟩
abbrev cX5_takesNumber : ByteArray := prog_7_method_56_code
def yX5_takesNumber : MethodName := ⟨RX5, "takesNumber", "(II)I"⟩
abbrev cX5_takesOneOf : ByteArray := prog_7_method_57_code
def yX5_takesOneOf : MethodName := ⟨RX5, "takesOneOf", "(II)I"⟩
abbrev cX5_muleHere : ByteArray := prog_7_method_58_code
def yX5_muleHere : MethodName := ⟨RX5, "muleHere", "()I"⟩
abbrev cX5_isName : ByteArray := prog_7_method_59_code
def yX5_isName : MethodName := ⟨RX5, "isName", "()Z"⟩
abbrev cX5_readsMule : ByteArray := prog_7_method_60_code
def yX5_readsMule : MethodName := ⟨RX5, "readsMule", "()V"⟩
abbrev cX5_readsSack : ByteArray := prog_7_method_61_code
def yX5_readsSack : MethodName := ⟨RX5, "readsSack", "()V"⟩
abbrev cX5_readsStage : ByteArray := prog_7_method_62_code
def yX5_readsStage : MethodName := ⟨RX5, "readsStage", "(I)V"⟩
abbrev cX5_readsPack : ByteArray := prog_7_method_63_code
def yX5_readsPack : MethodName := ⟨RX5, "readsPack", "()V"⟩
abbrev cX5_readsTrip : ByteArray := prog_7_method_64_code
def yX5_readsTrip : MethodName := ⟨RX5, "readsTrip", "()V"⟩
abbrev cX5_readsRest : ByteArray := prog_7_method_65_code
def yX5_readsRest : MethodName := ⟨RX5, "readsRest", "()V"⟩
abbrev cX5_readsLine : ByteArray := prog_7_method_66_code
def yX5_readsLine : MethodName := ⟨RX5, "readsLine", "()V"⟩
abbrev cX5_readsText : ByteArray := prog_7_method_67_code
def yX5_readsText : MethodName := ⟨RX5, "readsText", "(I)V"⟩
abbrev cX5_feeds : ByteArray := prog_7_method_68_code
def yX5_feeds : MethodName := ⟨RX5, "feeds", "(I)V"⟩
abbrev cX5_feed : ByteArray := prog_7_method_69_code
def yX5_feed : MethodName := ⟨RX5, "feed", "(IIIII)I"⟩
abbrev cX5_load : ByteArray := prog_7_method_70_code
def yX5_load : MethodName := ⟨RX5, "load", "(I)I"⟩
abbrev cX5_errorCode : ByteArray := prog_7_method_71_code
def yX5_errorCode : MethodName := ⟨RX5, "errorCode", "()I"⟩
abbrev cX5_errorPosition : ByteArray := prog_7_method_72_code
def yX5_errorPosition : MethodName := ⟨RX5, "errorPosition", "()I"⟩
abbrev cX5_atPlace : ByteArray := prog_7_method_73_code
def yX5_atPlace : MethodName := ⟨RX5, "atPlace", "(I)I"⟩
abbrev cX5_milesAll : ByteArray := prog_7_method_74_code
def yX5_milesAll : MethodName := ⟨RX5, "milesAll", "()I"⟩
abbrev cX5_value : ByteArray := prog_7_method_75_code
def yX5_value : MethodName := ⟨RX5, "value", "(I)I"⟩
abbrev cX5_setting : ByteArray := prog_7_method_76_code
def yX5_setting : MethodName := ⟨RX5, "setting", "(I)I"⟩
abbrev cX5_count : ByteArray := prog_7_method_77_code
def yX5_count : MethodName := ⟨RX5, "count", "(I)I"⟩
abbrev cX5_worthOn : ByteArray := prog_7_method_78_code
def yX5_worthOn : MethodName := ⟨RX5, "worthOn", "(I)I"⟩
abbrev cX5_lettersOf : ByteArray := prog_7_method_79_code
def yX5_lettersOf : MethodName := ⟨RX5, "lettersOf", "(I)I"⟩
abbrev cX5_mule : ByteArray := prog_7_method_80_code
def yX5_mule : MethodName := ⟨RX5, "mule", "(II)I"⟩
abbrev cX5_nameByte : ByteArray := prog_7_method_81_code
def yX5_nameByte : MethodName := ⟨RX5, "nameByte", "(II)I"⟩
abbrev cX5_sack : ByteArray := prog_7_method_82_code
def yX5_sack : MethodName := ⟨RX5, "sack", "(II)I"⟩
abbrev cX5_stage : ByteArray := prog_7_method_83_code
def yX5_stage : MethodName := ⟨RX5, "stage", "(II)I"⟩
abbrev cX5_gap : ByteArray := prog_7_method_84_code
def yX5_gap : MethodName := ⟨RX5, "gap", "()I"⟩
abbrev cX5_whyNot : ByteArray := prog_7_method_85_code
def yX5_whyNot : MethodName := ⟨RX5, "whyNot", "(II)I"⟩
abbrev cX5_whyNoTrip : ByteArray := prog_7_method_86_code
def yX5_whyNoTrip : MethodName := ⟨RX5, "whyNoTrip", "(I)I"⟩
abbrev cX5_tripBrings : ByteArray := prog_7_method_87_code
def yX5_tripBrings : MethodName := ⟨RX5, "tripBrings", "()I"⟩
abbrev cX5_fate : ByteArray := prog_7_method_88_code
def yX5_fate : MethodName := ⟨RX5, "fate", "(I)I"⟩
abbrev cX5_tiredBy : ByteArray := prog_7_method_89_code
def yX5_tiredBy : MethodName := ⟨RX5, "tiredBy", "(I)I"⟩
abbrev cX5_bestWorth : ByteArray := prog_7_method_90_code
def yX5_bestWorth : MethodName := ⟨RX5, "bestWorth", "(I)I"⟩
abbrev cX5_bestFor : ByteArray := prog_7_method_91_code
def yX5_bestFor : MethodName := ⟨RX5, "bestFor", "(I)I"⟩
abbrev cX5_bestSack : ByteArray := prog_7_method_92_code
def yX5_bestSack : MethodName := ⟨RX5, "bestSack", "(I)I"⟩
abbrev cX5_lighterOf : ByteArray := prog_7_method_93_code
def yX5_lighterOf : MethodName := ⟨RX5, "lighterOf", "(I)I"⟩
abbrev cX5_lighter : ByteArray := prog_7_method_94_code
def yX5_lighter : MethodName := ⟨RX5, "lighter", "(I)I"⟩
abbrev cX5_freshIn : ByteArray := prog_7_method_95_code
def yX5_freshIn : MethodName := ⟨RX5, "freshIn", "(I)I"⟩
abbrev cX5_deepest : ByteArray := prog_7_method_96_code
def yX5_deepest : MethodName := ⟨RX5, "deepest", "(I)I"⟩
abbrev cX5_worthOfLoads : ByteArray := prog_7_method_97_code
def yX5_worthOfLoads : MethodName := ⟨RX5, "worthOfLoads", "()D"⟩
abbrev cX5_filled : ByteArray := prog_7_method_98_code
def yX5_filled : MethodName := ⟨RX5, "filled", "(I)F"⟩
abbrev cX5_pack : ByteArray := prog_7_method_99_code
def yX5_pack : MethodName := ⟨RX5, "pack", "(III)I"⟩
abbrev cX5_unpack : ByteArray := prog_7_method_100_code
def yX5_unpack : MethodName := ⟨RX5, "unpack", "(I)I"⟩
abbrev cX5_fill : ByteArray := prog_7_method_101_code
def yX5_fill : MethodName := ⟨RX5, "fill", "(I)I"⟩
abbrev cX5_shift : ByteArray := prog_7_method_102_code
def yX5_shift : MethodName := ⟨RX5, "shift", "(I)I"⟩
abbrev cX5_trip : ByteArray := prog_7_method_103_code
def yX5_trip : MethodName := ⟨RX5, "trip", "()I"⟩
abbrev cX5_rest : ByteArray := prog_7_method_104_code
def yX5_rest : MethodName := ⟨RX5, "rest", "(I)I"⟩
abbrev cX5_addSack : ByteArray := prog_7_method_105_code
def yX5_addSack : MethodName := ⟨RX5, "addSack", "(III)I"⟩
abbrev cX5_addStage : ByteArray := prog_7_method_106_code
def yX5_addStage : MethodName := ⟨RX5, "addStage", "(II)I"⟩
abbrev cX5_dropStage : ByteArray := prog_7_method_107_code
def yX5_dropStage : MethodName := ⟨RX5, "dropStage", "(I)I"⟩
abbrev cX5_set : ByteArray := prog_7_method_108_code
def yX5_set : MethodName := ⟨RX5, "set", "(II)I"⟩
abbrev cX5_restore : ByteArray := prog_7_method_109_code
def yX5_restore : MethodName := ⟨RX5, "restore", "(I)I"⟩
abbrev cX5_undo : ByteArray := prog_7_method_110_code
def yX5_undo : MethodName := ⟨RX5, "undo", "()I"⟩
abbrev cX5_save : ByteArray := prog_7_method_111_code
def yX5_save : MethodName := ⟨RX5, "save", "(I)I"⟩
abbrev cX5_writes : ByteArray := prog_7_method_112_code
def yX5_writes : MethodName := ⟨RX5, "writes", "(I)V"⟩
abbrev cX5_writesNumber : ByteArray := prog_7_method_113_code
def yX5_writesNumber : MethodName := ⟨RX5, "writesNumber", "(I)V"⟩
abbrev cX5_writesSide : ByteArray := prog_7_method_114_code
def yX5_writesSide : MethodName := ⟨RX5, "writesSide", "(II)V"⟩
abbrev cX5_writeMule : ByteArray := prog_7_method_115_code
def yX5_writeMule : MethodName := ⟨RX5, "writeMule", "(I)I"⟩
abbrev cX5_writeWay : ByteArray := prog_7_method_116_code
def yX5_writeWay : MethodName := ⟨RX5, "writeWay", "()I"⟩
abbrev cX5_outputByte : ByteArray := prog_7_method_117_code
def yX5_outputByte : MethodName := ⟨RX5, "outputByte", "(I)I"⟩
def RJx145de : String := "java/io/Serializable"
def TJx145de : u_T := fun k => match k with
  | _ => ("", "", "", false)
def tyJx145de : Nat → FieldType := fun k => match k with
  | _ => .int
abbrev wsJx145de0 : List Cond := u_ws RJx145de TJx145de 0
theorem nmJx145de : ∀ a, a < 0 → ∀ b, b < 0 → a ≠ b → (TJx145de a).2.1 ≠ (TJx145de b).2.1 := by decide +kernel
theorem tyJx145de_ok : ∀ k, k < 0 → parseFieldDescriptor (TJx145de k).2.2.1 = some (tyJx145de k) := by decide +kernel
def RJ5 : String := "java/lang/AbstractStringBuilder"
def TJ5 : u_T := fun k => match k with
  | _ => ("", "", "", false)
def tyJ5 : Nat → FieldType := fun k => match k with
  | _ => .int
abbrev wsJ50 : List Cond := u_ws RJ5 TJ5 0
theorem nmJ5 : ∀ a, a < 0 → ∀ b, b < 0 → a ≠ b → (TJ5 a).2.1 ≠ (TJ5 b).2.1 := by decide +kernel
theorem tyJ5_ok : ∀ k, k < 0 → parseFieldDescriptor (TJ5 k).2.2.1 = some (tyJ5 k) := by decide +kernel
abbrev cJ5_init_d00df : ByteArray := prog_9_method_2_code
def yJ5_init_d00df : MethodName := ⟨RJ5, "<init>", "(I)V"⟩
abbrev cJ5_length_8abf5 : ByteArray := prog_9_method_6_code
def yJ5_length_8abf5 : MethodName := ⟨RJ5, "length", "()I"⟩
abbrev cJ5_ensureCapacityInternal_d00df : ByteArray := prog_9_method_9_code
def yJ5_ensureCapacityInternal_d00df : MethodName := ⟨RJ5, "ensureCapacityInternal", "(I)V"⟩
abbrev cJ5_newCapacity_0f7a4 : ByteArray := prog_9_method_10_code
def yJ5_newCapacity_0f7a4 : MethodName := ⟨RJ5, "newCapacity", "(I)I"⟩
abbrev cJ5_inflate_da8c8 : ByteArray := prog_9_method_11_code
def yJ5_inflate_da8c8 : MethodName := ⟨RJ5, "inflate", "()V"⟩
abbrev cJ5_setLength_d00df : ByteArray := prog_9_method_13_code
def yJ5_setLength_d00df : MethodName := ⟨RJ5, "setLength", "(I)V"⟩
abbrev cJ5_charAt_5068e : ByteArray := prog_9_method_14_code
def yJ5_charAt_5068e : MethodName := ⟨RJ5, "charAt", "(I)C"⟩
abbrev cJ5_append_cf1ce : ByteArray := prog_9_method_22_code
def yJ5_append_cf1ce : MethodName := ⟨RJ5, "append", "(Ljava/lang/String;)Ljava/lang/AbstractStringBuilder;"⟩
abbrev cJ5_appendNull_278bc : ByteArray := prog_9_method_26_code
def yJ5_appendNull_278bc : MethodName := ⟨RJ5, "appendNull", "()Ljava/lang/AbstractStringBuilder;"⟩
abbrev cJ5_append_3fe6f : ByteArray := prog_9_method_31_code
def yJ5_append_3fe6f : MethodName := ⟨RJ5, "append", "(C)Ljava/lang/AbstractStringBuilder;"⟩
abbrev cJ5_append_c97b9 : ByteArray := prog_9_method_32_code
def yJ5_append_c97b9 : MethodName := ⟨RJ5, "append", "(I)Ljava/lang/AbstractStringBuilder;"⟩
abbrev cJ5_getValue_6d5f1 : ByteArray := prog_9_method_64_code
def yJ5_getValue_6d5f1 : MethodName := ⟨RJ5, "getValue", "()[B"⟩
abbrev cJ5_isLatin1_aae02 : ByteArray := prog_9_method_68_code
def yJ5_isLatin1_aae02 : MethodName := ⟨RJ5, "isLatin1", "()Z"⟩
abbrev cJ5_inflateIfNeededFor_a7421 : ByteArray := prog_9_method_71_code
def yJ5_inflateIfNeededFor_a7421 : MethodName := ⟨RJ5, "inflateIfNeededFor", "(Ljava/lang/String;)V"⟩
abbrev cJ5_putStringAt_47b60 : ByteArray := prog_9_method_73_code
def yJ5_putStringAt_47b60 : MethodName := ⟨RJ5, "putStringAt", "(ILjava/lang/String;)V"⟩
def RJx2cfe8 : String := "java/lang/Appendable"
def TJx2cfe8 : u_T := fun k => match k with
  | _ => ("", "", "", false)
def tyJx2cfe8 : Nat → FieldType := fun k => match k with
  | _ => .int
abbrev wsJx2cfe80 : List Cond := u_ws RJx2cfe8 TJx2cfe8 0
theorem nmJx2cfe8 : ∀ a, a < 0 → ∀ b, b < 0 → a ≠ b → (TJx2cfe8 a).2.1 ≠ (TJx2cfe8 b).2.1 := by decide +kernel
theorem tyJx2cfe8_ok : ∀ k, k < 0 → parseFieldDescriptor (TJx2cfe8 k).2.2.1 = some (tyJx2cfe8 k) := by decide +kernel
def RJx00060 : String := "java/lang/ArrayIndexOutOfBoundsException"
def TJx00060 : u_T := fun k => match k with
  | 0 => ("java/lang/Throwable", "cause", "Ljava/lang/Throwable;", false)
  | 1 => ("java/lang/Throwable", "stackTrace", "[Ljava/lang/StackTraceElement;", false)
  | 2 => ("java/lang/Throwable", "suppressedExceptions", "Ljava/util/List;", false)
  | 3 => ("java/lang/Throwable", "detailMessage", "Ljava/lang/String;", false)
  | 4 => ("java/lang/Throwable", "backtrace", "Ljava/lang/Object;", false)
  | _ => ("java/lang/Throwable", "depth", "I", false)
def tyJx00060 : Nat → FieldType := fun k => match k with
  | 0 => .object "java/lang/Throwable"
  | 1 => .array (.object "java/lang/StackTraceElement")
  | 2 => .object "java/util/List"
  | 3 => .object "java/lang/String"
  | 4 => .object "java/lang/Object"
  | _ => .int
abbrev wsJx000600 : List Cond := u_ws RJx00060 TJx00060 6
theorem nmJx00060 : ∀ a, a < 6 → ∀ b, b < 6 → a ≠ b → (TJx00060 a).2.1 ≠ (TJx00060 b).2.1 := by decide +kernel
theorem tyJx00060_ok : ∀ k, k < 6 → parseFieldDescriptor (TJx00060 k).2.2.1 = some (tyJx00060 k) := by decide +kernel
abbrev cJx00060_init_d00df : ByteArray := prog_11_method_3_code
def yJx00060_init_d00df : MethodName := ⟨RJx00060, "<init>", "(I)V"⟩
def RJx9f9b0 : String := "java/lang/CharSequence"
def TJx9f9b0 : u_T := fun k => match k with
  | _ => ("", "", "", false)
def tyJx9f9b0 : Nat → FieldType := fun k => match k with
  | _ => .int
abbrev wsJx9f9b00 : List Cond := u_ws RJx9f9b0 TJx9f9b0 0
theorem nmJx9f9b0 : ∀ a, a < 0 → ∀ b, b < 0 → a ≠ b → (TJx9f9b0 a).2.1 ≠ (TJx9f9b0 b).2.1 := by decide +kernel
theorem tyJx9f9b0_ok : ∀ k, k < 0 → parseFieldDescriptor (TJx9f9b0 k).2.2.1 = some (tyJx9f9b0 k) := by decide +kernel
def RJx8e188 : String := "java/lang/Cloneable"
def TJx8e188 : u_T := fun k => match k with
  | _ => ("", "", "", false)
def tyJx8e188 : Nat → FieldType := fun k => match k with
  | _ => .int
abbrev wsJx8e1880 : List Cond := u_ws RJx8e188 TJx8e188 0
theorem nmJx8e188 : ∀ a, a < 0 → ∀ b, b < 0 → a ≠ b → (TJx8e188 a).2.1 ≠ (TJx8e188 b).2.1 := by decide +kernel
theorem tyJx8e188_ok : ∀ k, k < 0 → parseFieldDescriptor (TJx8e188 k).2.2.1 = some (tyJx8e188 k) := by decide +kernel
def RJxb160c : String := "java/lang/Comparable"
def TJxb160c : u_T := fun k => match k with
  | _ => ("", "", "", false)
def tyJxb160c : Nat → FieldType := fun k => match k with
  | _ => .int
abbrev wsJxb160c0 : List Cond := u_ws RJxb160c TJxb160c 0
theorem nmJxb160c : ∀ a, a < 0 → ∀ b, b < 0 → a ≠ b → (TJxb160c a).2.1 ≠ (TJxb160c b).2.1 := by decide +kernel
theorem tyJxb160c_ok : ∀ k, k < 0 → parseFieldDescriptor (TJxb160c k).2.2.1 = some (tyJxb160c k) := by decide +kernel
def RJ6 : String := "java/lang/Integer"
def TJ6 : u_T := fun k => match k with
  | _ => ("", "", "", false)
def tyJ6 : Nat → FieldType := fun k => match k with
  | _ => .int
abbrev wsJ60 : List Cond := u_ws RJ6 TJ6 0
theorem nmJ6 : ∀ a, a < 0 → ∀ b, b < 0 → a ≠ b → (TJ6 a).2.1 ≠ (TJ6 b).2.1 := by decide +kernel
theorem tyJ6_ok : ∀ k, k < 0 → parseFieldDescriptor (TJ6 k).2.2.1 = some (tyJ6 k) := by decide +kernel
abbrev cJ6_getChars_ba4f3 : ByteArray := prog_19_method_12_code
def yJ6_getChars_ba4f3 : MethodName := ⟨RJ6, "getChars", "(II[B)I"⟩
abbrev cJ6_stringSize_0f7a4 : ByteArray := prog_19_method_13_code
def yJ6_stringSize_0f7a4 : MethodName := ⟨RJ6, "stringSize", "(I)I"⟩
abbrev cJ6_bitCount_0f7a4 : ByteArray := prog_19_method_49_code
def yJ6_bitCount_0f7a4 : MethodName := ⟨RJ6, "bitCount", "(I)I"⟩
def RJ9 : String := "java/lang/Math"
def TJ9 : u_T := fun k => match k with
  | _ => ("", "", "", false)
def tyJ9 : Nat → FieldType := fun k => match k with
  | _ => .int
abbrev wsJ90 : List Cond := u_ws RJ9 TJ9 0
theorem nmJ9 : ∀ a, a < 0 → ∀ b, b < 0 → a ≠ b → (TJ9 a).2.1 ≠ (TJ9 b).2.1 := by decide +kernel
theorem tyJ9_ok : ∀ k, k < 0 → parseFieldDescriptor (TJ9 k).2.2.1 = some (tyJ9 k) := by decide +kernel
abbrev cJ9_abs_0f7a4 : ByteArray := prog_20_method_59_code
def yJ9_abs_0f7a4 : MethodName := ⟨RJ9, "abs", "(I)I"⟩
abbrev cJ9_max_7cf53 : ByteArray := prog_20_method_65_code
def yJ9_max_7cf53 : MethodName := ⟨RJ9, "max", "(II)I"⟩
abbrev cJ9_min_7cf53 : ByteArray := prog_20_method_69_code
def yJ9_min_7cf53 : MethodName := ⟨RJ9, "min", "(II)I"⟩
def RJxd2413 : String := "java/lang/Number"
def TJxd2413 : u_T := fun k => match k with
  | _ => ("", "", "", false)
def tyJxd2413 : Nat → FieldType := fun k => match k with
  | _ => .int
abbrev wsJxd24130 : List Cond := u_ws RJxd2413 TJxd2413 0
theorem nmJxd2413 : ∀ a, a < 0 → ∀ b, b < 0 → a ≠ b → (TJxd2413 a).2.1 ≠ (TJxd2413 b).2.1 := by decide +kernel
theorem tyJxd2413_ok : ∀ k, k < 0 → parseFieldDescriptor (TJxd2413 k).2.2.1 = some (tyJxd2413 k) := by decide +kernel
def RJ0 : String := "java/lang/String"
def TJ0 : u_T := fun k => match k with
  | 0 => ("java/lang/String", "value", "[B", true)
  | 1 => ("java/lang/String", "coder", "B", true)
  | 2 => ("java/lang/String", "hash", "I", false)
  | _ => ("java/lang/String", "hashIsZero", "Z", false)
def tyJ0 : Nat → FieldType := fun k => match k with
  | 0 => .array .byte
  | 1 => .byte
  | 2 => .int
  | _ => .boolean
abbrev wsJ00 : List Cond := u_ws RJ0 TJ0 4
theorem nmJ0 : ∀ a, a < 4 → ∀ b, b < 4 → a ≠ b → (TJ0 a).2.1 ≠ (TJ0 b).2.1 := by decide +kernel
theorem tyJ0_ok : ∀ k, k < 4 → parseFieldDescriptor (TJ0 k).2.2.1 = some (tyJ0 k) := by decide +kernel
abbrev cJ0_init_81219 : ByteArray := prog_23_method_53_code
def yJ0_init_81219 : MethodName := ⟨RJ0, "<init>", "(Ljava/lang/StringBuilder;)V"⟩
abbrev cJ0_length_8abf5 : ByteArray := prog_23_method_54_code
def yJ0_length_8abf5 : MethodName := ⟨RJ0, "length", "()I"⟩
abbrev cJ0_charAt_5068e : ByteArray := prog_23_method_56_code
def yJ0_charAt_5068e : MethodName := ⟨RJ0, "charAt", "(I)C"⟩
abbrev cJ0_getBytes_840e7 : ByteArray := prog_23_method_147_code
def yJ0_getBytes_840e7 : MethodName := ⟨RJ0, "getBytes", "([BIB)V"⟩
abbrev cJ0_init_db425 : ByteArray := prog_23_method_150_code
def yJ0_init_db425 : MethodName := ⟨RJ0, "<init>", "(Ljava/lang/AbstractStringBuilder;Ljava/lang/Void;)V"⟩
abbrev cJ0_coder_7d493 : ByteArray := prog_23_method_152_code
def yJ0_coder_7d493 : MethodName := ⟨RJ0, "coder", "()B"⟩
abbrev cJ0_isLatin1_aae02 : ByteArray := prog_23_method_154_code
def yJ0_isLatin1_aae02 : MethodName := ⟨RJ0, "isLatin1", "()Z"⟩
abbrev cJ0_checkIndex_df160 : ByteArray := prog_23_method_155_code
def yJ0_checkIndex_df160 : MethodName := ⟨RJ0, "checkIndex", "(II)V"⟩
abbrev cJ0_checkBoundsOffCount_cabcc : ByteArray := prog_23_method_157_code
def yJ0_checkBoundsOffCount_cabcc : MethodName := ⟨RJ0, "checkBoundsOffCount", "(III)I"⟩
abbrev cJ0_checkBoundsBeginEnd_23922 : ByteArray := prog_23_method_158_code
def yJ0_checkBoundsBeginEnd_23922 : MethodName := ⟨RJ0, "checkBoundsBeginEnd", "(III)V"⟩
def RJ4 : String := "java/lang/StringBuilder"
def TJ4 : u_T := fun k => match k with
  | 0 => ("java/lang/AbstractStringBuilder", "value", "[B", false)
  | 1 => ("java/lang/AbstractStringBuilder", "coder", "B", false)
  | 2 => ("java/lang/AbstractStringBuilder", "maybeLatin1", "Z", false)
  | _ => ("java/lang/AbstractStringBuilder", "count", "I", false)
def tyJ4 : Nat → FieldType := fun k => match k with
  | 0 => .array .byte
  | 1 => .byte
  | 2 => .boolean
  | _ => .int
abbrev wsJ40 : List Cond := u_ws RJ4 TJ4 4
theorem nmJ4 : ∀ a, a < 4 → ∀ b, b < 4 → a ≠ b → (TJ4 a).2.1 ≠ (TJ4 b).2.1 := by decide +kernel
theorem tyJ4_ok : ∀ k, k < 4 → parseFieldDescriptor (TJ4 k).2.2.1 = some (tyJ4 k) := by decide +kernel
abbrev cJ4_init_da8c8 : ByteArray := prog_24_method_1_code
def yJ4_init_da8c8 : MethodName := ⟨RJ4, "<init>", "()V"⟩
abbrev cJ4_append_15ec4 : ByteArray := prog_24_method_7_code
def yJ4_append_15ec4 : MethodName := ⟨RJ4, "append", "(Ljava/lang/String;)Ljava/lang/StringBuilder;"⟩
abbrev cJ4_append_cf468 : ByteArray := prog_24_method_14_code
def yJ4_append_cf468 : MethodName := ⟨RJ4, "append", "(C)Ljava/lang/StringBuilder;"⟩
abbrev cJ4_append_bf812 : ByteArray := prog_24_method_15_code
def yJ4_append_bf812 : MethodName := ⟨RJ4, "append", "(I)Ljava/lang/StringBuilder;"⟩
abbrev cJ4_toString_0e30d : ByteArray := prog_24_method_42_code
def yJ4_toString_0e30d : MethodName := ⟨RJ4, "toString", "()Ljava/lang/String;"⟩
abbrev cJ4_charAt_5068e : ByteArray := prog_24_method_88_code
def yJ4_charAt_5068e : MethodName := ⟨RJ4, "charAt", "(I)C"⟩
abbrev cJ4_setLength_d00df : ByteArray := prog_24_method_89_code
def yJ4_setLength_d00df : MethodName := ⟨RJ4, "setLength", "(I)V"⟩
abbrev cJ4_length_8abf5 : ByteArray := prog_24_method_93_code
def yJ4_length_8abf5 : MethodName := ⟨RJ4, "length", "()I"⟩
def RJx7c733 : String := "java/lang/StringIndexOutOfBoundsException"
def TJx7c733 : u_T := fun k => match k with
  | 0 => ("java/lang/Throwable", "backtrace", "Ljava/lang/Object;", false)
  | 1 => ("java/lang/Throwable", "detailMessage", "Ljava/lang/String;", false)
  | 2 => ("java/lang/Throwable", "cause", "Ljava/lang/Throwable;", false)
  | 3 => ("java/lang/Throwable", "stackTrace", "[Ljava/lang/StackTraceElement;", false)
  | 4 => ("java/lang/Throwable", "depth", "I", false)
  | _ => ("java/lang/Throwable", "suppressedExceptions", "Ljava/util/List;", false)
def tyJx7c733 : Nat → FieldType := fun k => match k with
  | 0 => .object "java/lang/Object"
  | 1 => .object "java/lang/String"
  | 2 => .object "java/lang/Throwable"
  | 3 => .array (.object "java/lang/StackTraceElement")
  | 4 => .int
  | _ => .object "java/util/List"
abbrev wsJx7c7330 : List Cond := u_ws RJx7c733 TJx7c733 6
theorem nmJx7c733 : ∀ a, a < 6 → ∀ b, b < 6 → a ≠ b → (TJx7c733 a).2.1 ≠ (TJx7c733 b).2.1 := by decide +kernel
theorem tyJx7c733_ok : ∀ k, k < 6 → parseFieldDescriptor (TJx7c733 k).2.2.1 = some (tyJx7c733 k) := by decide +kernel
abbrev cJx7c733_init_d00df : ByteArray := prog_25_method_3_code
def yJx7c733_init_d00df : MethodName := ⟨RJx7c733, "<init>", "(I)V"⟩
def RJ1 : String := "java/lang/StringLatin1"
def TJ1 : u_T := fun k => match k with
  | _ => ("", "", "", false)
def tyJ1 : Nat → FieldType := fun k => match k with
  | _ => .int
abbrev wsJ10 : List Cond := u_ws RJ1 TJ1 0
theorem nmJ1 : ∀ a, a < 0 → ∀ b, b < 0 → a ≠ b → (TJ1 a).2.1 ≠ (TJ1 b).2.1 := by decide +kernel
theorem tyJ1_ok : ∀ k, k < 0 → parseFieldDescriptor (TJ1 k).2.2.1 = some (tyJ1 k) := by decide +kernel
abbrev cJ1_charAt_3b067 : ByteArray := prog_26_method_2_code
def yJ1_charAt_3b067 : MethodName := ⟨RJ1, "charAt", "([BI)C"⟩
abbrev cJ1_canEncode_fc78d : ByteArray := prog_26_method_3_code
def yJ1_canEncode_fc78d : MethodName := ⟨RJ1, "canEncode", "(C)Z"⟩
abbrev cJ1_fillNull_b72d1 : ByteArray := prog_26_method_48_code
def yJ1_fillNull_b72d1 : MethodName := ⟨RJ1, "fillNull", "([BII)V"⟩
abbrev cJ1_inflate_0e8fd : ByteArray := prog_26_method_50_code
def yJ1_inflate_0e8fd : MethodName := ⟨RJ1, "inflate", "([BI[BII)V"⟩
def RJ2 : String := "java/lang/StringUTF16"
def TJ2 : u_T := fun k => match k with
  | _ => ("", "", "", false)
def tyJ2 : Nat → FieldType := fun k => match k with
  | _ => .int
abbrev wsJ20 : List Cond := u_ws RJ2 TJ2 0
theorem nmJ2 : ∀ a, a < 0 → ∀ b, b < 0 → a ≠ b → (TJ2 a).2.1 ≠ (TJ2 b).2.1 := by decide +kernel
theorem tyJ2_ok : ∀ k, k < 0 → parseFieldDescriptor (TJ2 k).2.2.1 = some (tyJ2 k) := by decide +kernel
abbrev cJ2_newBytesFor_77867 : ByteArray := prog_27_method_2_code
def yJ2_newBytesFor_77867 : MethodName := ⟨RJ2, "newBytesFor", "(I)[B"⟩
abbrev cJ2_newBytesLength_0f7a4 : ByteArray := prog_27_method_3_code
def yJ2_newBytesLength_0f7a4 : MethodName := ⟨RJ2, "newBytesLength", "(I)I"⟩
abbrev cJ2_putChar_b72d1 : ByteArray := prog_27_method_4_code
def yJ2_putChar_b72d1 : MethodName := ⟨RJ2, "putChar", "([BII)V"⟩
abbrev cJ2_getChar_3b067 : ByteArray := prog_27_method_5_code
def yJ2_getChar_3b067 : MethodName := ⟨RJ2, "getChar", "([BI)C"⟩
abbrev cJ2_length_9d52b : ByteArray := prog_27_method_6_code
def yJ2_length_9d52b : MethodName := ⟨RJ2, "length", "([B)I"⟩
abbrev cJ2_coderFromArrayLen_85cad : ByteArray := prog_27_method_15_code
def yJ2_coderFromArrayLen_85cad : MethodName := ⟨RJ2, "coderFromArrayLen", "([BI)B"⟩
abbrev cJ2_compress_39247 : ByteArray := prog_27_method_17_code
def yJ2_compress_39247 : MethodName := ⟨RJ2, "compress", "([BII)[B"⟩
abbrev cJ2_compress_5af95 : ByteArray := prog_27_method_22_code
def yJ2_compress_5af95 : MethodName := ⟨RJ2, "compress", "([BI[BII)I"⟩
abbrev cJ2_fillNull_b72d1 : ByteArray := prog_27_method_70_code
def yJ2_fillNull_b72d1 : MethodName := ⟨RJ2, "fillNull", "([BII)V"⟩
abbrev cJ2_putCharSB_b72d1 : ByteArray := prog_27_method_71_code
def yJ2_putCharSB_b72d1 : MethodName := ⟨RJ2, "putCharSB", "([BII)V"⟩
abbrev cJ2_getChars_46870 : ByteArray := prog_27_method_77_code
def yJ2_getChars_46870 : MethodName := ⟨RJ2, "getChars", "(III[B)I"⟩
abbrev cJ2_putCharsAt_cd4e5 : ByteArray := prog_27_method_81_code
def yJ2_putCharsAt_cd4e5 : MethodName := ⟨RJ2, "putCharsAt", "([BICCCC)I"⟩
abbrev cJ2_charAt_3b067 : ByteArray := prog_27_method_83_code
def yJ2_charAt_3b067 : MethodName := ⟨RJ2, "charAt", "([BI)C"⟩
abbrev cJ2_inflate_0e8fd : ByteArray := prog_27_method_86_code
def yJ2_inflate_0e8fd : MethodName := ⟨RJ2, "inflate", "([BI[BII)V"⟩
abbrev cJ2_getChars_ba4f3 : ByteArray := prog_27_method_89_code
def yJ2_getChars_ba4f3 : MethodName := ⟨RJ2, "getChars", "(II[B)I"⟩
abbrev cJ2_checkIndex_2214a : ByteArray := prog_27_method_91_code
def yJ2_checkIndex_2214a : MethodName := ⟨RJ2, "checkIndex", "(I[B)V"⟩
abbrev cJ2_checkBoundsBeginEnd_d044e : ByteArray := prog_27_method_93_code
def yJ2_checkBoundsBeginEnd_d044e : MethodName := ⟨RJ2, "checkBoundsBeginEnd", "(II[B)V"⟩
abbrev cJ2_checkBoundsOffCount_d044e : ByteArray := prog_27_method_94_code
def yJ2_checkBoundsOffCount_d044e : MethodName := ⟨RJ2, "checkBoundsOffCount", "(II[B)V"⟩
def RJ10 : String := "java/lang/System"
def TJ10 : u_T := fun k => match k with
  | _ => ("", "", "", false)
def tyJ10 : Nat → FieldType := fun k => match k with
  | _ => .int
abbrev wsJ100 : List Cond := u_ws RJ10 TJ10 0
theorem nmJ10 : ∀ a, a < 0 → ∀ b, b < 0 → a ≠ b → (TJ10 a).2.1 ≠ (TJ10 b).2.1 := by decide +kernel
theorem tyJ10_ok : ∀ k, k < 0 → parseFieldDescriptor (TJ10 k).2.2.1 = some (tyJ10 k) := by decide +kernel
def RJxfd54e : String := "java/lang/constant/Constable"
def TJxfd54e : u_T := fun k => match k with
  | _ => ("", "", "", false)
def tyJxfd54e : Nat → FieldType := fun k => match k with
  | _ => .int
abbrev wsJxfd54e0 : List Cond := u_ws RJxfd54e TJxfd54e 0
theorem nmJxfd54e : ∀ a, a < 0 → ∀ b, b < 0 → a ≠ b → (TJxfd54e a).2.1 ≠ (TJxfd54e b).2.1 := by decide +kernel
theorem tyJxfd54e_ok : ∀ k, k < 0 → parseFieldDescriptor (TJxfd54e k).2.2.1 = some (tyJxfd54e k) := by decide +kernel
def RJx3cf43 : String := "java/lang/constant/ConstantDesc"
def TJx3cf43 : u_T := fun k => match k with
  | _ => ("", "", "", false)
def tyJx3cf43 : Nat → FieldType := fun k => match k with
  | _ => .int
abbrev wsJx3cf430 : List Cond := u_ws RJx3cf43 TJx3cf43 0
theorem nmJx3cf43 : ∀ a, a < 0 → ∀ b, b < 0 → a ≠ b → (TJx3cf43 a).2.1 ≠ (TJx3cf43 b).2.1 := by decide +kernel
theorem tyJx3cf43_ok : ∀ k, k < 0 → parseFieldDescriptor (TJx3cf43 k).2.2.1 = some (tyJx3cf43 k) := by decide +kernel
def RJ7 : String := "java/util/Arrays"
def TJ7 : u_T := fun k => match k with
  | _ => ("", "", "", false)
def tyJ7 : Nat → FieldType := fun k => match k with
  | _ => .int
abbrev wsJ70 : List Cond := u_ws RJ7 TJ7 0
theorem nmJ7 : ∀ a, a < 0 → ∀ b, b < 0 → a ≠ b → (TJ7 a).2.1 ≠ (TJ7 b).2.1 := by decide +kernel
theorem tyJ7_ok : ∀ k, k < 0 → parseFieldDescriptor (TJ7 k).2.2.1 = some (tyJ7 k) := by decide +kernel
abbrev cJ7_rangeCheck_23922 : ByteArray := prog_32_method_30_code
def yJ7_rangeCheck_23922 : MethodName := ⟨RJ7, "rangeCheck", "(III)V"⟩
abbrev cJ7_fill_eb02e : ByteArray := prog_32_method_110_code
def yJ7_fill_eb02e : MethodName := ⟨RJ7, "fill", "([BIIB)V"⟩
abbrev cJ7_copyOf_9075b : ByteArray := prog_32_method_121_code
def yJ7_copyOf_9075b : MethodName := ⟨RJ7, "copyOf", "([BI)[B"⟩
abbrev cJ7_checkLength_df160 : ByteArray := prog_32_method_131_code
def yJ7_checkLength_df160 : MethodName := ⟨RJ7, "checkLength", "(II)V"⟩
abbrev cJ7_copyOfRange_39247 : ByteArray := prog_32_method_132_code
def yJ7_copyOfRange_39247 : MethodName := ⟨RJ7, "copyOfRange", "([BII)[B"⟩
abbrev cJ7_copyOfRangeByte_39247 : ByteArray := prog_32_method_133_code
def yJ7_copyOfRangeByte_39247 : MethodName := ⟨RJ7, "copyOfRangeByte", "([BII)[B"⟩
def RJ8 : String := "jdk/internal/util/ArraysSupport"
def TJ8 : u_T := fun k => match k with
  | _ => ("", "", "", false)
def tyJ8 : Nat → FieldType := fun k => match k with
  | _ => .int
abbrev wsJ80 : List Cond := u_ws RJ8 TJ8 0
theorem nmJ8 : ∀ a, a < 0 → ∀ b, b < 0 → a ≠ b → (TJ8 a).2.1 ≠ (TJ8 b).2.1 := by decide +kernel
theorem tyJ8_ok : ∀ k, k < 0 → parseFieldDescriptor (TJ8 k).2.2.1 = some (tyJ8 k) := by decide +kernel
abbrev cJ8_newLength_cabcc : ByteArray := prog_34_method_27_code
def yJ8_newLength_cabcc : MethodName := ⟨RJ8, "newLength", "(III)I"⟩
abbrev cJ8_hugeLength_7cf53 : ByteArray := prog_34_method_28_code
def yJ8_hugeLength_7cf53 : MethodName := ⟨RJ8, "hugeLength", "(II)I"⟩
def RJ3 : String := "jdk/internal/util/Preconditions"
def TJ3 : u_T := fun k => match k with
  | _ => ("", "", "", false)
def tyJ3 : Nat → FieldType := fun k => match k with
  | _ => .int
abbrev wsJ30 : List Cond := u_ws RJ3 TJ3 0
theorem nmJ3 : ∀ a, a < 0 → ∀ b, b < 0 → a ≠ b → (TJ3 a).2.1 ≠ (TJ3 b).2.1 := by decide +kernel
theorem tyJ3_ok : ∀ k, k < 0 → parseFieldDescriptor (TJ3 k).2.2.1 = some (tyJ3 k) := by decide +kernel
abbrev cJ3_checkIndex_8e157 : ByteArray := prog_35_method_11_code
def yJ3_checkIndex_8e157 : MethodName := ⟨RJ3, "checkIndex", "(IILjava/util/function/BiFunction;)I"⟩
abbrev cJ3_checkFromToIndex_8c36e : ByteArray := prog_35_method_12_code
def yJ3_checkFromToIndex_8c36e : MethodName := ⟨RJ3, "checkFromToIndex", "(IIILjava/util/function/BiFunction;)I"⟩
abbrev cJ3_checkFromIndexSize_8c36e : ByteArray := prog_35_method_13_code
def yJ3_checkFromIndexSize_8c36e : MethodName := ⟨RJ3, "checkFromIndexSize", "(IIILjava/util/function/BiFunction;)I"⟩
def RL : String := "MuleTrainLaw"
abbrev cL_feed : ByteArray := method_3_code
def yL_feed : MethodName := ⟨RL, "feed", "(LMuleTrain;IIIII[J)I"⟩
abbrev cL_load : ByteArray := method_4_code
def yL_load : MethodName := ⟨RL, "load", "(LMuleTrain;I[J)I"⟩
abbrev cL_value : ByteArray := method_5_code
def yL_value : MethodName := ⟨RL, "value", "(LMuleTrain;I[J)I"⟩
abbrev cL_setting : ByteArray := method_6_code
def yL_setting : MethodName := ⟨RL, "setting", "(LMuleTrain;I[J)I"⟩
abbrev cL_count : ByteArray := method_7_code
def yL_count : MethodName := ⟨RL, "count", "(LMuleTrain;I[J)I"⟩
abbrev cL_mule : ByteArray := method_8_code
def yL_mule : MethodName := ⟨RL, "mule", "(LMuleTrain;II[J)I"⟩
abbrev cL_nameByte : ByteArray := method_9_code
def yL_nameByte : MethodName := ⟨RL, "nameByte", "(LMuleTrain;II[J)I"⟩
abbrev cL_sack : ByteArray := method_10_code
def yL_sack : MethodName := ⟨RL, "sack", "(LMuleTrain;II[J)I"⟩
abbrev cL_stage : ByteArray := method_11_code
def yL_stage : MethodName := ⟨RL, "stage", "(LMuleTrain;II[J)I"⟩
abbrev cL_whyNot : ByteArray := method_12_code
def yL_whyNot : MethodName := ⟨RL, "whyNot", "(LMuleTrain;II[J)I"⟩
abbrev cL_whyNoTrip : ByteArray := method_13_code
def yL_whyNoTrip : MethodName := ⟨RL, "whyNoTrip", "(LMuleTrain;I[J)I"⟩
abbrev cL_fate : ByteArray := method_14_code
def yL_fate : MethodName := ⟨RL, "fate", "(LMuleTrain;I[J)I"⟩
abbrev cL_tiredBy : ByteArray := method_15_code
def yL_tiredBy : MethodName := ⟨RL, "tiredBy", "(LMuleTrain;I[J)I"⟩
abbrev cL_bestWorth : ByteArray := method_16_code
def yL_bestWorth : MethodName := ⟨RL, "bestWorth", "(LMuleTrain;I[J)I"⟩
abbrev cL_bestSack : ByteArray := method_17_code
def yL_bestSack : MethodName := ⟨RL, "bestSack", "(LMuleTrain;I[J)I"⟩
abbrev cL_lighter : ByteArray := method_18_code
def yL_lighter : MethodName := ⟨RL, "lighter", "(LMuleTrain;I[J)I"⟩
abbrev cL_freshIn : ByteArray := method_19_code
def yL_freshIn : MethodName := ⟨RL, "freshIn", "(LMuleTrain;I[J)I"⟩
abbrev cL_deepest : ByteArray := method_20_code
def yL_deepest : MethodName := ⟨RL, "deepest", "(LMuleTrain;I[J)I"⟩
abbrev cL_filled : ByteArray := method_21_code
def yL_filled : MethodName := ⟨RL, "filled", "(LMuleTrain;I[D)I"⟩
abbrev cL_pack : ByteArray := method_22_code
def yL_pack : MethodName := ⟨RL, "pack", "(LMuleTrain;III[J)I"⟩
abbrev cL_unpack : ByteArray := method_23_code
def yL_unpack : MethodName := ⟨RL, "unpack", "(LMuleTrain;I[J)I"⟩
abbrev cL_fill : ByteArray := method_24_code
def yL_fill : MethodName := ⟨RL, "fill", "(LMuleTrain;I[J)I"⟩
abbrev cL_shift : ByteArray := method_25_code
def yL_shift : MethodName := ⟨RL, "shift", "(LMuleTrain;I[J)I"⟩
abbrev cL_trip : ByteArray := method_26_code
def yL_trip : MethodName := ⟨RL, "trip", "(LMuleTrain;[J)I"⟩
abbrev cL_rest : ByteArray := method_27_code
def yL_rest : MethodName := ⟨RL, "rest", "(LMuleTrain;I[J)I"⟩
abbrev cL_addSack : ByteArray := method_28_code
def yL_addSack : MethodName := ⟨RL, "addSack", "(LMuleTrain;III[J)I"⟩
abbrev cL_addStage : ByteArray := method_29_code
def yL_addStage : MethodName := ⟨RL, "addStage", "(LMuleTrain;II[J)I"⟩
abbrev cL_dropStage : ByteArray := method_30_code
def yL_dropStage : MethodName := ⟨RL, "dropStage", "(LMuleTrain;I[J)I"⟩
abbrev cL_set : ByteArray := method_31_code
def yL_set : MethodName := ⟨RL, "set", "(LMuleTrain;II[J)I"⟩
abbrev cL_restore : ByteArray := method_32_code
def yL_restore : MethodName := ⟨RL, "restore", "(LMuleTrain;I[J)I"⟩
abbrev cL_undo : ByteArray := method_33_code
def yL_undo : MethodName := ⟨RL, "undo", "(LMuleTrain;[J)I"⟩
abbrev cL_save : ByteArray := method_34_code
def yL_save : MethodName := ⟨RL, "save", "(LMuleTrain;I[J)I"⟩
abbrev cL_writeMule : ByteArray := method_35_code
def yL_writeMule : MethodName := ⟨RL, "writeMule", "(LMuleTrain;I[J)I"⟩
abbrev cL_outputByte : ByteArray := method_36_code
def yL_outputByte : MethodName := ⟨RL, "outputByte", "(LMuleTrain;I[J)I"⟩
abbrev cL_law : ByteArray := code
def yL_law : MethodName := ⟨RL, "law", "([I)Z"⟩
abbrev vwCl : List vw_C := [(RJ0, TJ0, 4), (RJ4, TJ4, 4), (RJx00060, TJx00060, 6), (RJx7c733, TJx7c733, 6), (RX0, TX0, 3), (RX1, TX1, 11), (RX2, TX2, 3), (RX3, TX3, 7), (RX4, TX4, 8), (RX5, TX5, 25)]
end
section
/-! A small machine: the bytecode of the claim's methods, run over a world of cells at places (not addresses); what it answers, the JVM answers. -/
abbrev mE : Type := (Nat × vp_A) ⊕ (Nat × List Value)
abbrev mI : Type := Nat × Nat × Nat × List Nat × Value
abbrev mO : Type := (Option Value) ⊕ Nat
abbrev mR : Type := mO × List mE × Nat × Nat
def mset {α : Type} {ρ : Type} : List α → Nat → α → (List α → ρ) → ρ → ρ
  | [], _, _, _, d => d
  | _ :: l, 0, e, k, _ => k (e :: l)
  | a :: l, i + 1, e, k, d => mset l i e (fun l' => k (a :: l')) d
theorem mset_eq {α ρ : Type} : ∀ (l : List α) (i : Nat) (e : α) (k : List α → ρ) (d : ρ), mset l i e k d = if i < l.length then k (l.set i e) else d := by
  intro l
  induction l with
  | nil => intro i e k d; simp [mset]
  | cons a l ih =>
    intro i e k d
    cases i with
    | zero => simp [mset]
    | succ i =>
      rw [mset, ih]
      by_cases h : i < l.length
      · rw [if_pos h, if_pos (by simpa using h), List.set_cons_succ]
      · rw [if_neg h, if_neg (by simpa using h)]
/-- places below a million are the world's, the others those of what is only read -/
def mz (adR ad : Nat → Nat) (q : Nat) : Nat := bif Nat.blt q 1000000 then ad q else adR (q - 1000000)
def mget (RO W9 : List mE) (q : Nat) : Option mE := bif Nat.blt q 1000000 then W9[q]? else RO[q - 1000000]?
def cz (z : Nat → Nat) : Value → Value
  | .int a => .int a
  | .long a => .long a
  | .float a => .float a
  | .double a => .double a
  | .null => .null
  | .ref q => .ref (z q)
  | .retAddr t => .retAddr t
theorem cz_cat (z : Nat → Nat) (v : Value) : (cz z v).category = v.category := by cases v <;> rfl
theorem cz_cats (z : Nat → Nat) (l : List Value) : ((l.map (cz z)).map fun v => v.category).sum = (l.map fun v => v.category).sum := by
  rw [List.map_map]
  congr 1
  exact List.map_congr_left (fun v _ => cz_cat z v)
def czA (z : Nat → Nat) (a : vp_A) : vp_A := (a.1, match a.2 with
  | .inl f => .inl f
  | .inr (.inl f) => .inr (.inl f)
  | .inr (.inr (.inl f)) => .inr (.inr (.inl f))
  | .inr (.inr (.inr (.inl f))) => .inr (.inr (.inr (.inl f)))
  | .inr (.inr (.inr (.inr f))) => .inr (.inr (.inr (.inr (fun i => (f i).map z)))))
def czE (dA : Nat → ClassId) (z : Nat → Nat) : mE → va_E
  | .inl (t, a) => .inl (dA t, czA z a)
  | .inr (ci, fs) => .inr (ci, fs.map (cz z))
def cw (dA : Nat → ClassId) (z ad : Nat → Nat) (W9 : List mE) : va_W := W9.mapIdx (fun j e => (ad j, czE dA z e))
theorem cw_at (dA : Nat → ClassId) (z ad : Nat → Nat) (W9 : List mE) (j : Nat) : (cw dA z ad W9)[j]? = (W9[j]?).map (fun e => (ad j, czE dA z e)) := by
  rw [cw, List.getElem?_mapIdx]
theorem cw_set (dA : Nat → ClassId) (z ad : Nat → Nat) (W9 : List mE) (q : Nat) (e : mE) : (cw dA z ad W9).set q (ad q, czE dA z e) = cw dA z ad (W9.set q e) := by
  apply List.ext_getElem?
  intro j
  rw [cw_at, List.getElem?_set, List.getElem?_set, cw_at]
  by_cases h : q = j
  · subst h
    simp only [if_true]
    by_cases h2 : q < W9.length
    · rw [if_pos (by simpa [cw] using h2), if_pos h2]; rfl
    · rw [if_neg (by simpa [cw] using h2), if_neg h2]; rfl
  · rw [if_neg h, if_neg h]
def nret : Value → Bool
  | .retAddr _ => false
  | _ => true
/-- the locals: what stands at each place; a returnAddress stands for what isn't known -/
def lz (z : Nat → Nat) (ls : Array Slot) (nL : Nat) (L : List Value) : Prop := ls.size = nL ∧ lv_wf ls ∧ ∀ (i : Nat) (v : Value), L[i]? = some v → nret v = true → ls[i]? = some (.val (cz z v))
def lqq (z : Nat → Nat) : Nat → List Value → List (Nat × Value)
  | _, [] => []
  | i, v :: l => if nret v = true then (i, cz z v) :: lqq z (i + 1) l else lqq z (i + 1) l
theorem lqq_mem (z : Nat → Nat) : ∀ (l : List Value) (o : Nat) (q : Nat × Value), q ∈ lqq z o l ↔ ∃ (j : Nat) (v : Value), l[j]? = some v ∧ nret v = true ∧ q = (o + j, cz z v) := by
  intro l
  induction l with
  | nil => intro o q; simp [lqq]
  | cons a l ih =>
    intro o q
    constructor
    · intro h
      rw [lqq] at h
      by_cases hn : nret a = true
      · rw [if_pos hn] at h
        rcases List.mem_cons.mp h with h | h
        · exact ⟨0, a, rfl, hn, h⟩
        · obtain ⟨j, v, h1, h2, h3⟩ := (ih _ _).mp h
          exact ⟨j + 1, v, h1, h2, by rw [h3]; congr 1; omega⟩
      · rw [if_neg hn] at h
        obtain ⟨j, v, h1, h2, h3⟩ := (ih _ _).mp h
        exact ⟨j + 1, v, h1, h2, by rw [h3]; congr 1; omega⟩
    · rintro ⟨j, v, h1, h2, h3⟩
      rw [lqq]
      cases j with
      | zero =>
        cases h1
        rw [if_pos h2, h3]
        exact List.mem_cons_self
      | succ j =>
        have h4 : q ∈ lqq z (o + 1) l := (ih _ _).mpr ⟨j, v, h1, h2, by rw [h3]; congr 1; omega⟩
        by_cases hn : nret a = true
        · rw [if_pos hn]; exact List.mem_cons_of_mem _ h4
        · rw [if_neg hn]; exact h4
theorem lz_has {z : Nat → Nat} {ls : Array Slot} {nL : Nat} {L : List Value} (h : lz z ls nL L) : lv_has ls nL (lqq z 0 L) := by
  refine ⟨h.1, h.2.1, fun q hq => ?_⟩
  obtain ⟨j, v, h1, h2, h3⟩ := (lqq_mem z L 0 q).mp hq
  rw [h3]
  simpa using h.2.2 j v h1 h2
/-- no wide value just below the place i -/
def okp (L : List Value) (i : Nat) : Bool := match i with
  | 0 => true
  | j + 1 => match L[j]? with
    | some v => Nat.ble v.category 1
    | none => true
theorem lz_set {z : Nat → Nat} {ls ls' : Array Slot} {nL i : Nat} {L : List Value} {v : Value} (h : lz z ls nL L) (hp : okp L i = true) (hv : v.category = 1)
    (h' : lv_has ls' nL ((i, cz z v) :: (lqq z 0 L).filter (fun q => !(q.1 == i) && !(q.1 + 1 == i && q.2.category == 2)))) : lz z ls' nL (L.set i v) := by
  refine ⟨h'.1, h'.2.1, fun j u hu hn => ?_⟩
  rw [List.getElem?_set] at hu
  by_cases hij : i = j
  · subst hij
    rw [if_pos rfl] at hu
    by_cases hl : i < L.length
    · rw [if_pos hl] at hu
      cases hu
      exact h'.2.2 (i, cz z v) List.mem_cons_self
    · rw [if_neg hl] at hu; cases hu
  · rw [if_neg hij] at hu
    refine h'.2.2 (j, cz z u) (List.mem_cons_of_mem _ (List.mem_filter.mpr ⟨(lqq_mem z L 0 _).mpr ⟨j, u, hu, hn, by simp⟩, ?_⟩))
    have h1 : (j == i) = false := by simpa using fun e => hij e.symm
    have h2 : (j + 1 == i && (cz z u).category == 2) = false := by
      rw [cz_cat]
      by_cases e : j + 1 = i
      · subst e
        rw [okp, hu] at hp
        have := Nat.le_of_ble_eq_true hp
        have h3 : (u.category == 2) = false := by simp; omega
        rw [h3, Bool.and_false]
      · have h3 : (j + 1 == i) = false := by simpa using e
        rw [h3, Bool.false_and]
    show (!(j == i) && !(j + 1 == i && (cz z u).category == 2)) = true
    rw [h1, h2]; rfl
theorem lz_set2 {z : Nat → Nat} {ls ls' : Array Slot} {nL i : Nat} {L : List Value} {v : Value} (h : lz z ls nL L) (hp : okp L i = true)
    (h' : lv_has ls' nL ((i, cz z v) :: (lqq z 0 L).filter (fun q => !(q.1 == i) && (!(q.1 == i + 1) && !(q.1 + 1 == i && q.2.category == 2))))) : lz z ls' nL ((L.set i v).set (i + 1) (.retAddr 0)) := by
  refine ⟨h'.1, h'.2.1, fun j u hu hn => ?_⟩
  rw [List.getElem?_set] at hu
  by_cases hij1 : i + 1 = j
  · rw [if_pos hij1] at hu
    split at hu
    · cases hu; exact absurd hn (by decide)
    · cases hu
  rw [if_neg hij1, List.getElem?_set] at hu
  by_cases hij : i = j
  · subst hij
    rw [if_pos rfl] at hu
    by_cases hl : i < L.length
    · rw [if_pos hl] at hu
      cases hu
      exact h'.2.2 (i, cz z v) List.mem_cons_self
    · rw [if_neg hl] at hu; cases hu
  · rw [if_neg hij] at hu
    refine h'.2.2 (j, cz z u) (List.mem_cons_of_mem _ (List.mem_filter.mpr ⟨(lqq_mem z L 0 _).mpr ⟨j, u, hu, hn, by simp⟩, ?_⟩))
    have h1 : (j == i) = false := by simpa using fun e => hij e.symm
    have h0 : (j == i + 1) = false := by simpa using fun e => hij1 e.symm
    have h2 : (j + 1 == i && (cz z u).category == 2) = false := by
      rw [cz_cat]
      by_cases e : j + 1 = i
      · subst e
        rw [okp, hu] at hp
        have := Nat.le_of_ble_eq_true hp
        have h3 : (u.category == 2) = false := by simp; omega
        rw [h3, Bool.and_false]
      · have h3 : (j + 1 == i) = false := by simpa using e
        rw [h3, Bool.false_and]
    show (!(j == i) && (!(j == i + 1) && !(j + 1 == i && (cz z u).category == 2))) = true
    rw [h1, h0, h2]; rfl
theorem lz_at {z : Nat → Nat} {ls : Array Slot} {nL i : Nat} {L : List Value} {v : Value} (h : lz z ls nL L) (hv : L[i]? = some v) (hn : nret v = true) : ls[i]? = some (.val (cz z v)) := h.2.2 i v hv hn
/-- all places in range -/
def wv (n : Nat) (l : List Value) : Prop := ∀ v ∈ l, ∀ r, v = .ref r → r < n ∨ 1000000 ≤ r
def wE (n : Nat) : mE → Prop
  | .inl (_, a) => match a.2 with
    | .inr (.inr (.inr (.inr f))) => ∀ i r, f i = some r → r < n ∨ 1000000 ≤ r
    | _ => True
  | .inr (_, fs) => wv n fs
def wW (n : Nat) (W9 : List mE) : Prop := ∀ e ∈ W9, wE n e
theorem wv_tail {n : Nat} {a : Value} {l : List Value} (h : wv n (a :: l)) : wv n l := fun v hv => h v (List.mem_cons_of_mem _ hv)
theorem wv_cons {n : Nat} {a : Value} {l : List Value} (ha : ∀ r, a = .ref r → r < n ∨ 1000000 ≤ r) (h : wv n l) : wv n (a :: l) := fun v hv => by
  rcases List.mem_cons.mp hv with e | e
  · rw [e]; exact ha
  · exact h v e
theorem wv_int {n : Nat} {a : Int32} {l : List Value} (h : wv n l) : wv n (.int a :: l) := wv_cons (fun _ e => by cases e) h
theorem wv_set {n : Nat} {l : List Value} {i : Nat} {a : Value} (ha : ∀ r, a = .ref r → r < n ∨ 1000000 ≤ r) (h : wv n l) : wv n (l.set i a) := fun v hv => by
  rcases List.mem_or_eq_of_mem_set hv with e | e
  · exact h v e
  · rw [e]; exact ha
theorem wW_set {n : Nat} {l : List mE} {i : Nat} {a : mE} (ha : wE n a) (h : wW n l) : wW n (l.set i a) := fun v hv => by
  rcases List.mem_or_eq_of_mem_set hv with e | e
  · exact h v e
  · rw [e]; exact ha
theorem wv_get {n : Nat} {l : List Value} {i : Nat} {v : Value} (h : wv n l) (hv : l[i]? = some v) : ∀ r, v = .ref r → r < n ∨ 1000000 ≤ r := h v (List.mem_of_getElem? hv)
theorem wW_get {n : Nat} {l : List mE} {i : Nat} {v : mE} (h : wW n l) (hv : l[i]? = some v) : wE n v := h v (List.mem_of_getElem? hv)
theorem mz_eq {n : Nat} (hn : n ≤ 1000000) {adR ad ad' : Nat → Nat} (h : ∀ j, j < n → ad' j = ad j) {r : Nat} (hr : r < n ∨ 1000000 ≤ r) : mz adR ad' r = mz adR ad r := by
  unfold mz
  cases hb : Nat.blt r 1000000 with
  | false => rfl
  | true =>
    have h1 : r < 1000000 := by
      have := Nat.le_of_ble_eq_true hb
      omega
    exact h r (by omega)
theorem cz_eq {n : Nat} (hn : n ≤ 1000000) {adR ad ad' : Nat → Nat} (h : ∀ j, j < n → ad' j = ad j) {v : Value} (hv : ∀ r, v = .ref r → r < n ∨ 1000000 ≤ r) : cz (mz adR ad') v = cz (mz adR ad) v := by
  cases v with
  | ref r => exact congrArg Value.ref (mz_eq hn h (hv r rfl))
  | _ => rfl
theorem czs_eq {n : Nat} (hn : n ≤ 1000000) {adR ad ad' : Nat → Nat} (h : ∀ j, j < n → ad' j = ad j) {l : List Value} (hl : wv n l) : l.map (cz (mz adR ad')) = l.map (cz (mz adR ad)) :=
  List.map_congr_left (fun v hv => cz_eq hn h (hl v hv))
theorem czE_eq {n : Nat} (hn : n ≤ 1000000) {dA : Nat → ClassId} {adR ad ad' : Nat → Nat} (h : ∀ j, j < n → ad' j = ad j) {e : mE} (he : wE n e) : czE dA (mz adR ad') e = czE dA (mz adR ad) e := by
  rcases e with ⟨t, m9, a⟩ | ⟨ci, fs⟩
  · rcases a with f | f | f | f | f
    · rfl
    · rfl
    · rfl
    · rfl
    · have h2 : ∀ i r, f i = some r → r < n ∨ 1000000 ≤ r := he
      have h3 : (fun i => (f i).map (mz adR ad')) = (fun i => (f i).map (mz adR ad)) := by
        funext i
        cases hf : f i with
        | none => rfl
        | some r => exact congrArg some (mz_eq hn h (h2 i r hf))
      show Sum.inl (dA t, (m9, Sum.inr (Sum.inr (Sum.inr (Sum.inr (fun i => (f i).map (mz adR ad'))))))) = Sum.inl (dA t, (m9, Sum.inr (Sum.inr (Sum.inr (Sum.inr (fun i => (f i).map (mz adR ad)))))))
      rw [h3]
  · exact congrArg (fun l => Sum.inr (ci, l)) (czs_eq hn h he)
theorem cw_eq {dA : Nat → ClassId} {adR ad ad' : Nat → Nat} {W9 : List mE} (hn : W9.length ≤ 1000000) (h : ∀ j, j < W9.length → ad' j = ad j) (hw : wW W9.length W9) : cw dA (mz adR ad') ad' W9 = cw dA (mz adR ad) ad W9 := by
  apply List.ext_getElem?
  intro j
  rw [cw_at, cw_at]
  cases hj : W9[j]? with
  | none => rfl
  | some e =>
    have hl := (List.getElem?_eq_some_iff.mp hj).1
    show some (ad' j, czE dA (mz adR ad') e) = some (ad j, czE dA (mz adR ad) e)
    rw [h j hl, czE_eq hn h (wW_get hw hj)]
theorem wv_mono {n n' : Nat} (hn : n ≤ n') {l : List Value} (h : wv n l) : wv n' l := fun v hv r hr => (h v hv r hr).imp (fun q => Nat.lt_of_lt_of_le q hn) id
theorem wE_mono {n n' : Nat} (hn : n ≤ n') {e : mE} (h : wE n e) : wE n' e := by
  rcases e with ⟨t, m9, a⟩ | ⟨ci, fs⟩
  · rcases a with f | f | f | f | f
    · trivial
    · trivial
    · trivial
    · trivial
    · exact fun i r hr => (show ∀ i r, f i = some r → r < n ∨ 1000000 ≤ r from h) i r hr |>.imp (fun q => Nat.lt_of_lt_of_le q hn) id
  · exact wv_mono hn h
theorem wW_mono {n n' : Nat} (hn : n ≤ n') {W9 : List mE} (h : wW n W9) : wW n' W9 := fun e he => wE_mono hn (h e he)
theorem cw_push {dA : Nat → ClassId} {z ad : Nat → Nat} {W9 : List mE} {e : mE} : cw dA z ad (W9 ++ [e]) = cw dA z ad W9 ++ [(ad W9.length, czE dA z e)] := by
  apply List.ext_getElem?
  intro j
  have hlen : (cw dA z ad W9).length = W9.length := by rw [cw, List.length_mapIdx]
  rw [cw_at]
  by_cases h : j < W9.length
  · rw [List.getElem?_append_left h, List.getElem?_append_left (by rw [hlen]; exact h), cw_at]
  · rw [List.getElem?_append_right (by omega), List.getElem?_append_right (by rw [hlen]; omega), hlen]
    by_cases h2 : j = W9.length
    · subst h2; simp
    · have h3 : 1 ≤ j - W9.length := by omega
      rw [List.getElem?_eq_none (by simpa using h3), List.getElem?_eq_none (by simpa using h3)]; rfl
end
section
/-! written by program: the words by number, the methods by number -/
def wat (n : Nat) : Option Cond := bif Nat.blt n 1000 then (k2_sels lw_privs)[n - 0]? else bif Nat.blt n 2000 then tables_1_1[n - 1000]? else bif Nat.blt n 3000 then tables_1_2[n - 2000]? else bif Nat.blt n 4000 then tables_1_3[n - 3000]? else bif Nat.blt n 5000 then tables_1_4[n - 4000]? else bif Nat.blt n 6000 then tables_1_5[n - 5000]? else bif Nat.blt n 7000 then tables_1_6[n - 6000]? else bif Nat.blt n 8000 then tables_1_7[n - 7000]? else bif Nat.blt n 9000 then tables_1_8[n - 8000]? else tables_1_9[n - 9000]?
theorem wat_mem {n : Nat} {w : Cond} (h : wat n = some w) : w ∈ lw_tbl := by
  have h0 : ∀ {i : Nat}, (k2_sels lw_privs)[i]? = some w → w ∈ lw_tbl := fun h => List.mem_append_left _ (List.mem_of_getElem? h)
  have h1 : w ∈ tables_1 → w ∈ lw_tbl := fun h => List.mem_append_right _ h
  have key : ∀ (b : Bool) (x y : Option Cond), (x = some w → w ∈ lw_tbl) → (y = some w → w ∈ lw_tbl) → (bif b then x else y) = some w → w ∈ lw_tbl := by
    intro b x y hx hy
    cases b
    · exact hy
    · exact hx
  unfold wat at h
  refine key _ _ _ h0 (key _ _ _ (fun h => h1 ?_) (key _ _ _ (fun h => h1 ?_) (key _ _ _ (fun h => h1 ?_) (key _ _ _ (fun h => h1 ?_) (key _ _ _ (fun h => h1 ?_) (key _ _ _ (fun h => h1 ?_) (key _ _ _ (fun h => h1 ?_) (key _ _ _ (fun h => h1 ?_) (fun h => h1 ?_))))))))) h
  · exact List.mem_append_left _ (List.mem_of_getElem? h)
  · exact List.mem_append_right _ (List.mem_append_left _ (List.mem_of_getElem? h))
  · exact List.mem_append_right _ (List.mem_append_right _ (List.mem_append_left _ (List.mem_of_getElem? h)))
  · exact List.mem_append_right _ (List.mem_append_right _ (List.mem_append_right _ (List.mem_append_left _ (List.mem_of_getElem? h))))
  · exact List.mem_append_right _ (List.mem_append_right _ (List.mem_append_right _ (List.mem_append_right _ (List.mem_append_left _ (List.mem_of_getElem? h)))))
  · exact List.mem_append_right _ (List.mem_append_right _ (List.mem_append_right _ (List.mem_append_right _ (List.mem_append_right _ (List.mem_append_left _ (List.mem_of_getElem? h))))))
  · exact List.mem_append_right _ (List.mem_append_right _ (List.mem_append_right _ (List.mem_append_right _ (List.mem_append_right _ (List.mem_append_right _ (List.mem_append_left _ (List.mem_of_getElem? h)))))))
  · exact List.mem_append_right _ (List.mem_append_right _ (List.mem_append_right _ (List.mem_append_right _ (List.mem_append_right _ (List.mem_append_right _ (List.mem_append_right _ (List.mem_append_left _ (List.mem_of_getElem? h))))))))
  · exact List.mem_append_right _ (List.mem_append_right _ (List.mem_append_right _ (List.mem_append_right _ (List.mem_append_right _ (List.mem_append_right _ (List.mem_append_right _ (List.mem_append_right _ (List.mem_of_getElem? h))))))))

def mby (k : Nat) : ByteArray := (bif Nat.blt k 179 then (bif Nat.blt k 89 then (bif Nat.blt k 44 then (bif Nat.blt k 22 then (bif Nat.blt k 11 then (bif Nat.blt k 5 then (bif Nat.blt k 2 then (bif Nat.blt k 1 then (bif Nat.beq k 0 then cX0_bringBack else ⟨#[]⟩) else (bif Nat.beq k 1 then cX0_forget else ⟨#[]⟩)) else (bif Nat.blt k 3 then (bif Nat.beq k 2 then cX0_init else ⟨#[]⟩) else (bif Nat.blt k 4 then (bif Nat.beq k 3 then cX0_remember else ⟨#[]⟩) else (bif Nat.beq k 4 then cX1_beginText else ⟨#[]⟩)))) else (bif Nat.blt k 8 then (bif Nat.blt k 6 then (bif Nat.beq k 5 then cX1_byteAt else ⟨#[]⟩) else (bif Nat.blt k 7 then (bif Nat.beq k 6 then cX1_emptyText else ⟨#[]⟩) else (bif Nat.beq k 7 then cX1_endLine else ⟨#[]⟩))) else (bif Nat.blt k 9 then (bif Nat.beq k 8 then cX1_init else ⟨#[]⟩) else (bif Nat.blt k 10 then (bif Nat.beq k 9 then cX1_isNameOf else ⟨#[]⟩) else (bif Nat.beq k 10 then cX1_isWord else ⟨#[]⟩))))) else (bif Nat.blt k 16 then (bif Nat.blt k 13 then (bif Nat.blt k 12 then (bif Nat.beq k 11 then cX1_muleOfName else ⟨#[]⟩) else (bif Nat.beq k 12 then cX1_nextToken else ⟨#[]⟩)) else (bif Nat.blt k 14 then (bif Nat.beq k 13 then cX1_noteError else ⟨#[]⟩) else (bif Nat.blt k 15 then (bif Nat.beq k 14 then cX1_parseHead else ⟨#[]⟩) else (bif Nat.beq k 15 then cX1_parseKind else ⟨#[]⟩)))) else (bif Nat.blt k 19 then (bif Nat.blt k 17 then (bif Nat.beq k 16 then cX1_parseMule else ⟨#[]⟩) else (bif Nat.blt k 18 then (bif Nat.beq k 17 then cX1_parseName else ⟨#[]⟩) else (bif Nat.beq k 18 then cX1_parseNumber else ⟨#[]⟩))) else (bif Nat.blt k 20 then (bif Nat.beq k 19 then cX1_parsePack else ⟨#[]⟩) else (bif Nat.blt k 21 then (bif Nat.beq k 20 then cX1_parseRest else ⟨#[]⟩) else (bif Nat.beq k 21 then cX1_parseSack else ⟨#[]⟩)))))) else (bif Nat.blt k 33 then (bif Nat.blt k 27 then (bif Nat.blt k 24 then (bif Nat.blt k 23 then (bif Nat.beq k 22 then cX1_parseSide else ⟨#[]⟩) else (bif Nat.beq k 23 then cX1_parseStage else ⟨#[]⟩)) else (bif Nat.blt k 25 then (bif Nat.beq k 24 then cX1_parseText else ⟨#[]⟩) else (bif Nat.blt k 26 then (bif Nat.beq k 25 then cX1_passRun else ⟨#[]⟩) else (bif Nat.beq k 26 then cX1_skipBlanks else ⟨#[]⟩)))) else (bif Nat.blt k 30 then (bif Nat.blt k 28 then (bif Nat.beq k 27 then cX1_sortOf else ⟨#[]⟩) else (bif Nat.blt k 29 then (bif Nat.beq k 28 then cX1_writeByte else ⟨#[]⟩) else (bif Nat.beq k 29 then cX1_writeFour else ⟨#[]⟩))) else (bif Nat.blt k 31 then (bif Nat.beq k 30 then cX1_writeText else ⟨#[]⟩) else (bif Nat.blt k 32 then (bif Nat.beq k 31 then cX2_at else ⟨#[]⟩) else (bif Nat.beq k 32 then cX2_copyRows else ⟨#[]⟩))))) else (bif Nat.blt k 38 then (bif Nat.blt k 35 then (bif Nat.blt k 34 then (bif Nat.beq k 33 then cX2_dropRow else ⟨#[]⟩) else (bif Nat.beq k 34 then cX2_emptyRows else ⟨#[]⟩)) else (bif Nat.blt k 36 then (bif Nat.beq k 35 then cX2_init else ⟨#[]⟩) else (bif Nat.blt k 37 then (bif Nat.beq k 36 then cX2_isFull else ⟨#[]⟩) else (bif Nat.beq k 37 then cX2_newRow else ⟨#[]⟩)))) else (bif Nat.blt k 41 then (bif Nat.blt k 39 then (bif Nat.beq k 38 then cX2_put else ⟨#[]⟩) else (bif Nat.blt k 40 then (bif Nat.beq k 39 then cX3_bearing else ⟨#[]⟩) else (bif Nat.beq k 40 then cX3_become else ⟨#[]⟩))) else (bif Nat.blt k 42 then (bif Nat.beq k 41 then cX3_beginAnew else ⟨#[]⟩) else (bif Nat.blt k 43 then (bif Nat.beq k 42 then cX3_bestFor else ⟨#[]⟩) else (bif Nat.beq k 43 then cX3_crossFord else ⟨#[]⟩))))))) else (bif Nat.blt k 66 then (bif Nat.blt k 55 then (bif Nat.blt k 49 then (bif Nat.blt k 46 then (bif Nat.blt k 45 then (bif Nat.beq k 44 then cX3_deliverLoads else ⟨#[]⟩) else (bif Nat.beq k 45 then cX3_easeBy else ⟨#[]⟩)) else (bif Nat.blt k 47 then (bif Nat.beq k 46 then cX3_firstUnlevel else ⟨#[]⟩) else (bif Nat.blt k 48 then (bif Nat.beq k 47 then cX3_fordLimit else ⟨#[]⟩) else (bif Nat.beq k 48 then cX3_goRoad else ⟨#[]⟩)))) else (bif Nat.blt k 52 then (bif Nat.blt k 50 then (bif Nat.beq k 49 then cX3_init else ⟨#[]⟩) else (bif Nat.blt k 51 then (bif Nat.beq k 50 then cX3_isBetter else ⟨#[]⟩) else (bif Nat.beq k 51 then cX3_isLevel else ⟨#[]⟩))) else (bif Nat.blt k 53 then (bif Nat.beq k 52 then cX3_leastOn else ⟨#[]⟩) else (bif Nat.blt k 54 then (bif Nat.beq k 53 then cX3_leftward else ⟨#[]⟩) else (bif Nat.beq k 54 then cX3_letterOf else ⟨#[]⟩))))) else (bif Nat.blt k 60 then (bif Nat.blt k 57 then (bif Nat.blt k 56 then (bif Nat.beq k 55 then cX3_lighterSide else ⟨#[]⟩) else (bif Nat.beq k 56 then cX3_loadOn else ⟨#[]⟩)) else (bif Nat.blt k 58 then (bif Nat.beq k 57 then cX3_mayTravel else ⟨#[]⟩) else (bif Nat.blt k 59 then (bif Nat.beq k 58 then cX3_miles else ⟨#[]⟩) else (bif Nat.beq k 59 then cX3_moneyGap else ⟨#[]⟩)))) else (bif Nat.blt k 63 then (bif Nat.blt k 61 then (bif Nat.beq k 60 then cX3_mulesWithSacks else ⟨#[]⟩) else (bif Nat.blt k 62 then (bif Nat.beq k 61 then cX3_newSack else ⟨#[]⟩) else (bif Nat.beq k 62 then cX3_newStage else ⟨#[]⟩))) else (bif Nat.blt k 64 then (bif Nat.beq k 63 then cX3_overload else ⟨#[]⟩) else (bif Nat.blt k 65 then (bif Nat.beq k 64 then cX3_packBest else ⟨#[]⟩) else (bif Nat.beq k 65 then cX3_payWages else ⟨#[]⟩)))))) else (bif Nat.blt k 77 then (bif Nat.blt k 71 then (bif Nat.blt k 68 then (bif Nat.blt k 67 then (bif Nat.beq k 66 then cX3_putOn else ⟨#[]⟩) else (bif Nat.beq k 67 then cX3_reasonNotToGo else ⟨#[]⟩)) else (bif Nat.blt k 69 then (bif Nat.beq k 68 then cX3_reasonNotToPack else ⟨#[]⟩) else (bif Nat.blt k 70 then (bif Nat.beq k 69 then cX3_sacksIn else ⟨#[]⟩) else (bif Nat.beq k 70 then cX3_sacksOn else ⟨#[]⟩)))) else (bif Nat.blt k 74 then (bif Nat.blt k 72 then (bif Nat.beq k 71 then cX3_shedTo else ⟨#[]⟩) else (bif Nat.blt k 73 then (bif Nat.beq k 72 then cX3_stayFor else ⟨#[]⟩) else (bif Nat.beq k 73 then cX3_takeOff else ⟨#[]⟩))) else (bif Nat.blt k 75 then (bif Nat.beq k 74 then cX3_tiredTogether else ⟨#[]⟩) else (bif Nat.blt k 76 then (bif Nat.beq k 75 then cX3_travel else ⟨#[]⟩) else (bif Nat.beq k 76 then cX3_weightOn else ⟨#[]⟩))))) else (bif Nat.blt k 83 then (bif Nat.blt k 80 then (bif Nat.blt k 78 then (bif Nat.beq k 77 then cX3_wetSack else ⟨#[]⟩) else (bif Nat.blt k 79 then (bif Nat.beq k 78 then cX3_worthGap else ⟨#[]⟩) else (bif Nat.beq k 79 then cX3_worthOn else ⟨#[]⟩))) else (bif Nat.blt k 81 then (bif Nat.beq k 80 then cX4_addSack else ⟨#[]⟩) else (bif Nat.blt k 82 then (bif Nat.beq k 81 then cX4_addStage else ⟨#[]⟩) else (bif Nat.beq k 82 then cX4_bestSack else ⟨#[]⟩)))) else (bif Nat.blt k 86 then (bif Nat.blt k 84 then (bif Nat.beq k 83 then cX4_bestWorth else ⟨#[]⟩) else (bif Nat.blt k 85 then (bif Nat.beq k 84 then cX4_count else ⟨#[]⟩) else (bif Nat.beq k 85 then cX4_deepest else ⟨#[]⟩))) else (bif Nat.blt k 87 then (bif Nat.beq k 86 then cX4_dropStage else ⟨#[]⟩) else (bif Nat.blt k 88 then (bif Nat.beq k 87 then cX4_errorCode else ⟨#[]⟩) else (bif Nat.beq k 88 then cX4_errorPosition else ⟨#[]⟩)))))))) else (bif Nat.blt k 134 then (bif Nat.blt k 111 then (bif Nat.blt k 100 then (bif Nat.blt k 94 then (bif Nat.blt k 91 then (bif Nat.blt k 90 then (bif Nat.beq k 89 then cX4_fate else ⟨#[]⟩) else (bif Nat.beq k 90 then cX4_feed else ⟨#[]⟩)) else (bif Nat.blt k 92 then (bif Nat.beq k 91 then cX4_fill else ⟨#[]⟩) else (bif Nat.blt k 93 then (bif Nat.beq k 92 then cX4_filled else ⟨#[]⟩) else (bif Nat.beq k 93 then cX4_freshIn else ⟨#[]⟩)))) else (bif Nat.blt k 97 then (bif Nat.blt k 95 then (bif Nat.beq k 94 then cX4_gap else ⟨#[]⟩) else (bif Nat.blt k 96 then (bif Nat.beq k 95 then cX4_init else ⟨#[]⟩) else (bif Nat.beq k 96 then cX4_lighter else ⟨#[]⟩))) else (bif Nat.blt k 98 then (bif Nat.beq k 97 then cX4_load else ⟨#[]⟩) else (bif Nat.blt k 99 then (bif Nat.beq k 98 then cX4_mostOfSetting else ⟨#[]⟩) else (bif Nat.beq k 99 then cX4_mostOfStage else ⟨#[]⟩))))) else (bif Nat.blt k 105 then (bif Nat.blt k 102 then (bif Nat.blt k 101 then (bif Nat.beq k 100 then cX4_mule else ⟨#[]⟩) else (bif Nat.beq k 101 then cX4_muleFact else ⟨#[]⟩)) else (bif Nat.blt k 103 then (bif Nat.beq k 102 then cX4_nameByte else ⟨#[]⟩) else (bif Nat.blt k 104 then (bif Nat.beq k 103 then cX4_offerSack else ⟨#[]⟩) else (bif Nat.beq k 104 then cX4_outputByte else ⟨#[]⟩)))) else (bif Nat.blt k 108 then (bif Nat.blt k 106 then (bif Nat.beq k 105 then cX4_pack else ⟨#[]⟩) else (bif Nat.blt k 107 then (bif Nat.beq k 106 then cX4_requireMule else ⟨#[]⟩) else (bif Nat.beq k 107 then cX4_requireOnMule else ⟨#[]⟩))) else (bif Nat.blt k 109 then (bif Nat.beq k 108 then cX4_requireSack else ⟨#[]⟩) else (bif Nat.blt k 110 then (bif Nat.beq k 109 then cX4_requireSetting else ⟨#[]⟩) else (bif Nat.beq k 110 then cX4_requireSlot else ⟨#[]⟩)))))) else (bif Nat.blt k 122 then (bif Nat.blt k 116 then (bif Nat.blt k 113 then (bif Nat.blt k 112 then (bif Nat.beq k 111 then cX4_requireStage else ⟨#[]⟩) else (bif Nat.beq k 112 then cX4_rest else ⟨#[]⟩)) else (bif Nat.blt k 114 then (bif Nat.beq k 113 then cX4_restore else ⟨#[]⟩) else (bif Nat.blt k 115 then (bif Nat.beq k 114 then cX4_sack else ⟨#[]⟩) else (bif Nat.beq k 115 then cX4_save else ⟨#[]⟩)))) else (bif Nat.blt k 119 then (bif Nat.blt k 117 then (bif Nat.beq k 116 then cX4_set else ⟨#[]⟩) else (bif Nat.blt k 118 then (bif Nat.beq k 117 then cX4_setting else ⟨#[]⟩) else (bif Nat.beq k 118 then cX4_shift else ⟨#[]⟩))) else (bif Nat.blt k 120 then (bif Nat.beq k 119 then cX4_stage else ⟨#[]⟩) else (bif Nat.blt k 121 then (bif Nat.beq k 120 then cX4_stageWord else ⟨#[]⟩) else (bif Nat.beq k 121 then cX4_tiredBy else ⟨#[]⟩))))) else (bif Nat.blt k 128 then (bif Nat.blt k 125 then (bif Nat.blt k 123 then (bif Nat.beq k 122 then cX4_trip else ⟨#[]⟩) else (bif Nat.blt k 124 then (bif Nat.beq k 123 then cX4_tripBrings else ⟨#[]⟩) else (bif Nat.beq k 124 then cX4_undo else ⟨#[]⟩))) else (bif Nat.blt k 126 then (bif Nat.beq k 125 then cX4_unpack else ⟨#[]⟩) else (bif Nat.blt k 127 then (bif Nat.beq k 126 then cX4_value else ⟨#[]⟩) else (bif Nat.beq k 127 then cX4_whyNoTrip else ⟨#[]⟩)))) else (bif Nat.blt k 131 then (bif Nat.blt k 129 then (bif Nat.beq k 128 then cX4_whyNot else ⟨#[]⟩) else (bif Nat.blt k 130 then (bif Nat.beq k 129 then cX4_worthOfLoads else ⟨#[]⟩) else (bif Nat.beq k 130 then cX4_writeMule else ⟨#[]⟩))) else (bif Nat.blt k 132 then (bif Nat.beq k 131 then cX4_writeSide else ⟨#[]⟩) else (bif Nat.blt k 133 then (bif Nat.beq k 132 then cX4_writeWay else ⟨#[]⟩) else (bif Nat.beq k 133 then cX5_addSack else ⟨#[]⟩))))))) else (bif Nat.blt k 156 then (bif Nat.blt k 145 then (bif Nat.blt k 139 then (bif Nat.blt k 136 then (bif Nat.blt k 135 then (bif Nat.beq k 134 then cX5_addStage else ⟨#[]⟩) else (bif Nat.beq k 135 then cX5_atPlace else ⟨#[]⟩)) else (bif Nat.blt k 137 then (bif Nat.beq k 136 then cX5_bears else ⟨#[]⟩) else (bif Nat.blt k 138 then (bif Nat.beq k 137 then cX5_begins else ⟨#[]⟩) else (bif Nat.beq k 138 then cX5_bestFor else ⟨#[]⟩)))) else (bif Nat.blt k 142 then (bif Nat.blt k 140 then (bif Nat.beq k 139 then cX5_bestSack else ⟨#[]⟩) else (bif Nat.blt k 141 then (bif Nat.beq k 140 then cX5_bestWorth else ⟨#[]⟩) else (bif Nat.beq k 141 then cX5_breaks else ⟨#[]⟩))) else (bif Nat.blt k 143 then (bif Nat.beq k 142 then cX5_brings else ⟨#[]⟩) else (bif Nat.blt k 144 then (bif Nat.beq k 143 then cX5_count else ⟨#[]⟩) else (bif Nat.beq k 144 then cX5_counts else ⟨#[]⟩))))) else (bif Nat.blt k 150 then (bif Nat.blt k 147 then (bif Nat.blt k 146 then (bif Nat.beq k 145 then cX5_deepest else ⟨#[]⟩) else (bif Nat.beq k 146 then cX5_delivers else ⟨#[]⟩)) else (bif Nat.blt k 148 then (bif Nat.beq k 147 then cX5_dropStage else ⟨#[]⟩) else (bif Nat.blt k 149 then (bif Nat.beq k 148 then cX5_errorCode else ⟨#[]⟩) else (bif Nat.beq k 149 then cX5_errorPosition else ⟨#[]⟩)))) else (bif Nat.blt k 153 then (bif Nat.blt k 151 then (bif Nat.beq k 150 then cX5_errs else ⟨#[]⟩) else (bif Nat.blt k 152 then (bif Nat.beq k 151 then cX5_fate else ⟨#[]⟩) else (bif Nat.beq k 152 then cX5_feed else ⟨#[]⟩))) else (bif Nat.blt k 154 then (bif Nat.beq k 153 then cX5_feeds else ⟨#[]⟩) else (bif Nat.blt k 155 then (bif Nat.beq k 154 then cX5_fill else ⟨#[]⟩) else (bif Nat.beq k 155 then cX5_filled else ⟨#[]⟩)))))) else (bif Nat.blt k 167 then (bif Nat.blt k 161 then (bif Nat.blt k 158 then (bif Nat.blt k 157 then (bif Nat.beq k 156 then cX5_firstTilted else ⟨#[]⟩) else (bif Nat.beq k 157 then cX5_fordLimit else ⟨#[]⟩)) else (bif Nat.blt k 159 then (bif Nat.beq k 158 then cX5_fords else ⟨#[]⟩) else (bif Nat.blt k 160 then (bif Nat.beq k 159 then cX5_freshIn else ⟨#[]⟩) else (bif Nat.beq k 160 then cX5_gap else ⟨#[]⟩)))) else (bif Nat.blt k 164 then (bif Nat.blt k 162 then (bif Nat.beq k 161 then cX5_goesOn else ⟨#[]⟩) else (bif Nat.blt k 163 then (bif Nat.beq k 162 then cX5_here else ⟨#[]⟩) else (bif Nat.beq k 163 then cX5_in else ⟨#[]⟩))) else (bif Nat.blt k 165 then (bif Nat.beq k 164 then cX5_init else ⟨#[]⟩) else (bif Nat.blt k 166 then (bif Nat.beq k 165 then cX5_isAnyPacked else ⟨#[]⟩) else (bif Nat.beq k 166 then cX5_isDigit else ⟨#[]⟩))))) else (bif Nat.blt k 173 then (bif Nat.blt k 170 then (bif Nat.blt k 168 then (bif Nat.beq k 167 then cX5_isKey else ⟨#[]⟩) else (bif Nat.blt k 169 then (bif Nat.beq k 168 then cX5_isLetter else ⟨#[]⟩) else (bif Nat.beq k 169 then cX5_isLevel else ⟨#[]⟩))) else (bif Nat.blt k 171 then (bif Nat.beq k 170 then cX5_isMule else ⟨#[]⟩) else (bif Nat.blt k 172 then (bif Nat.beq k 171 then cX5_isName else ⟨#[]⟩) else (bif Nat.beq k 172 then cX5_isOn else ⟨#[]⟩)))) else (bif Nat.blt k 176 then (bif Nat.blt k 174 then (bif Nat.beq k 173 then cX5_isPacked else ⟨#[]⟩) else (bif Nat.blt k 175 then (bif Nat.beq k 174 then cX5_isSack else ⟨#[]⟩) else (bif Nat.beq k 175 then cX5_isStage else ⟨#[]⟩))) else (bif Nat.blt k 177 then (bif Nat.beq k 176 then cX5_leads else ⟨#[]⟩) else (bif Nat.blt k 178 then (bif Nat.beq k 177 then cX5_leaves else ⟨#[]⟩) else (bif Nat.beq k 178 then cX5_lettersOf else ⟨#[]⟩))))))))) else (bif Nat.blt k 269 then (bif Nat.blt k 224 then (bif Nat.blt k 201 then (bif Nat.blt k 190 then (bif Nat.blt k 184 then (bif Nat.blt k 181 then (bif Nat.blt k 180 then (bif Nat.beq k 179 then cX5_lighter else ⟨#[]⟩) else (bif Nat.beq k 180 then cX5_lighterOf else ⟨#[]⟩)) else (bif Nat.blt k 182 then (bif Nat.beq k 181 then cX5_load else ⟨#[]⟩) else (bif Nat.blt k 183 then (bif Nat.beq k 182 then cX5_loadOf else ⟨#[]⟩) else (bif Nat.beq k 183 then cX5_m else ⟨#[]⟩)))) else (bif Nat.blt k 187 then (bif Nat.blt k 185 then (bif Nat.beq k 184 then cX5_milesAll else ⟨#[]⟩) else (bif Nat.blt k 186 then (bif Nat.beq k 185 then cX5_mule else ⟨#[]⟩) else (bif Nat.beq k 186 then cX5_muleHere else ⟨#[]⟩))) else (bif Nat.blt k 188 then (bif Nat.beq k 187 then cX5_nameByte else ⟨#[]⟩) else (bif Nat.blt k 189 then (bif Nat.beq k 188 then cX5_next else ⟨#[]⟩) else (bif Nat.beq k 189 then cX5_outputByte else ⟨#[]⟩))))) else (bif Nat.blt k 195 then (bif Nat.blt k 192 then (bif Nat.blt k 191 then (bif Nat.beq k 190 then cX5_pack else ⟨#[]⟩) else (bif Nat.beq k 191 then cX5_packReason else ⟨#[]⟩)) else (bif Nat.blt k 193 then (bif Nat.beq k 192 then cX5_packs else ⟨#[]⟩) else (bif Nat.blt k 194 then (bif Nat.beq k 193 then cX5_passes else ⟨#[]⟩) else (bif Nat.beq k 194 then cX5_poorestOn else ⟨#[]⟩)))) else (bif Nat.blt k 198 then (bif Nat.blt k 196 then (bif Nat.beq k 195 then cX5_putsAside else ⟨#[]⟩) else (bif Nat.blt k 197 then (bif Nat.beq k 196 then cX5_putsBack else ⟨#[]⟩) else (bif Nat.beq k 197 then cX5_readsLine else ⟨#[]⟩))) else (bif Nat.blt k 199 then (bif Nat.beq k 198 then cX5_readsMule else ⟨#[]⟩) else (bif Nat.blt k 200 then (bif Nat.beq k 199 then cX5_readsPack else ⟨#[]⟩) else (bif Nat.beq k 200 then cX5_readsRest else ⟨#[]⟩)))))) else (bif Nat.blt k 212 then (bif Nat.blt k 206 then (bif Nat.blt k 203 then (bif Nat.blt k 202 then (bif Nat.beq k 201 then cX5_readsSack else ⟨#[]⟩) else (bif Nat.beq k 202 then cX5_readsStage else ⟨#[]⟩)) else (bif Nat.blt k 204 then (bif Nat.beq k 203 then cX5_readsText else ⟨#[]⟩) else (bif Nat.blt k 205 then (bif Nat.beq k 204 then cX5_readsTrip else ⟨#[]⟩) else (bif Nat.beq k 205 then cX5_refuse else ⟨#[]⟩)))) else (bif Nat.blt k 209 then (bif Nat.blt k 207 then (bif Nat.beq k 206 then cX5_remembers else ⟨#[]⟩) else (bif Nat.blt k 208 then (bif Nat.beq k 207 then cX5_rest else ⟨#[]⟩) else (bif Nat.beq k 208 then cX5_restore else ⟨#[]⟩))) else (bif Nat.blt k 210 then (bif Nat.beq k 209 then cX5_rests else ⟨#[]⟩) else (bif Nat.blt k 211 then (bif Nat.beq k 210 then cX5_roads else ⟨#[]⟩) else (bif Nat.beq k 211 then cX5_s else ⟨#[]⟩))))) else (bif Nat.blt k 218 then (bif Nat.blt k 215 then (bif Nat.blt k 213 then (bif Nat.beq k 212 then cX5_sack else ⟨#[]⟩) else (bif Nat.blt k 214 then (bif Nat.beq k 213 then cX5_sacksOn else ⟨#[]⟩) else (bif Nat.beq k 214 then cX5_save else ⟨#[]⟩))) else (bif Nat.blt k 216 then (bif Nat.beq k 215 then cX5_set else ⟨#[]⟩) else (bif Nat.blt k 217 then (bif Nat.beq k 216 then cX5_setting else ⟨#[]⟩) else (bif Nat.beq k 217 then cX5_sheds else ⟨#[]⟩)))) else (bif Nat.blt k 221 then (bif Nat.blt k 219 then (bif Nat.beq k 218 then cX5_shift else ⟨#[]⟩) else (bif Nat.blt k 220 then (bif Nat.beq k 219 then cX5_stage else ⟨#[]⟩) else (bif Nat.beq k 220 then cX5_t else ⟨#[]⟩))) else (bif Nat.blt k 222 then (bif Nat.beq k 221 then cX5_takesNumber else ⟨#[]⟩) else (bif Nat.blt k 223 then (bif Nat.beq k 222 then cX5_takesOneOf else ⟨#[]⟩) else (bif Nat.beq k 223 then cX5_thrown else ⟨#[]⟩))))))) else (bif Nat.blt k 246 then (bif Nat.blt k 235 then (bif Nat.blt k 229 then (bif Nat.blt k 226 then (bif Nat.blt k 225 then (bif Nat.beq k 224 then cX5_tilt else ⟨#[]⟩) else (bif Nat.beq k 225 then cX5_tiredBy else ⟨#[]⟩)) else (bif Nat.blt k 227 then (bif Nat.beq k 226 then cX5_tires else ⟨#[]⟩) else (bif Nat.blt k 228 then (bif Nat.beq k 227 then cX5_told else ⟨#[]⟩) else (bif Nat.beq k 228 then cX5_trip else ⟨#[]⟩)))) else (bif Nat.blt k 232 then (bif Nat.blt k 230 then (bif Nat.beq k 229 then cX5_tripBrings else ⟨#[]⟩) else (bif Nat.blt k 231 then (bif Nat.beq k 230 then cX5_tripReason else ⟨#[]⟩) else (bif Nat.beq k 231 then cX5_trips else ⟨#[]⟩))) else (bif Nat.blt k 233 then (bif Nat.beq k 232 then cX5_undo else ⟨#[]⟩) else (bif Nat.blt k 234 then (bif Nat.beq k 233 then cX5_unpack else ⟨#[]⟩) else (bif Nat.beq k 234 then cX5_value else ⟨#[]⟩))))) else (bif Nat.blt k 240 then (bif Nat.blt k 237 then (bif Nat.blt k 236 then (bif Nat.beq k 235 then cX5_weightOf else ⟨#[]⟩) else (bif Nat.beq k 236 then cX5_weightOn else ⟨#[]⟩)) else (bif Nat.blt k 238 then (bif Nat.beq k 237 then cX5_wetWorth else ⟨#[]⟩) else (bif Nat.blt k 239 then (bif Nat.beq k 238 then cX5_wets else ⟨#[]⟩) else (bif Nat.beq k 239 then cX5_whyNoTrip else ⟨#[]⟩)))) else (bif Nat.blt k 243 then (bif Nat.blt k 241 then (bif Nat.beq k 240 then cX5_whyNot else ⟨#[]⟩) else (bif Nat.blt k 242 then (bif Nat.beq k 241 then cX5_without else ⟨#[]⟩) else (bif Nat.beq k 242 then cX5_worthOf else ⟨#[]⟩))) else (bif Nat.blt k 244 then (bif Nat.beq k 243 then cX5_worthOfLoads else ⟨#[]⟩) else (bif Nat.blt k 245 then (bif Nat.beq k 244 then cX5_worthOn else ⟨#[]⟩) else (bif Nat.beq k 245 then cX5_writeMule else ⟨#[]⟩)))))) else (bif Nat.blt k 257 then (bif Nat.blt k 251 then (bif Nat.blt k 248 then (bif Nat.blt k 247 then (bif Nat.beq k 246 then cX5_writeWay else ⟨#[]⟩) else (bif Nat.beq k 247 then cX5_writes else ⟨#[]⟩)) else (bif Nat.blt k 249 then (bif Nat.beq k 248 then cX5_writesNumber else ⟨#[]⟩) else (bif Nat.blt k 250 then (bif Nat.beq k 249 then cX5_writesSide else ⟨#[]⟩) else (bif Nat.beq k 250 then cL_addSack else ⟨#[]⟩)))) else (bif Nat.blt k 254 then (bif Nat.blt k 252 then (bif Nat.beq k 251 then cL_addStage else ⟨#[]⟩) else (bif Nat.blt k 253 then (bif Nat.beq k 252 then cL_bestSack else ⟨#[]⟩) else (bif Nat.beq k 253 then cL_bestWorth else ⟨#[]⟩))) else (bif Nat.blt k 255 then (bif Nat.beq k 254 then cL_count else ⟨#[]⟩) else (bif Nat.blt k 256 then (bif Nat.beq k 255 then cL_deepest else ⟨#[]⟩) else (bif Nat.beq k 256 then cL_dropStage else ⟨#[]⟩))))) else (bif Nat.blt k 263 then (bif Nat.blt k 260 then (bif Nat.blt k 258 then (bif Nat.beq k 257 then cL_fate else ⟨#[]⟩) else (bif Nat.blt k 259 then (bif Nat.beq k 258 then cL_feed else ⟨#[]⟩) else (bif Nat.beq k 259 then cL_fill else ⟨#[]⟩))) else (bif Nat.blt k 261 then (bif Nat.beq k 260 then cL_filled else ⟨#[]⟩) else (bif Nat.blt k 262 then (bif Nat.beq k 261 then cL_freshIn else ⟨#[]⟩) else (bif Nat.beq k 262 then cL_lighter else ⟨#[]⟩)))) else (bif Nat.blt k 266 then (bif Nat.blt k 264 then (bif Nat.beq k 263 then cL_load else ⟨#[]⟩) else (bif Nat.blt k 265 then (bif Nat.beq k 264 then cL_mule else ⟨#[]⟩) else (bif Nat.beq k 265 then cL_nameByte else ⟨#[]⟩))) else (bif Nat.blt k 267 then (bif Nat.beq k 266 then cL_outputByte else ⟨#[]⟩) else (bif Nat.blt k 268 then (bif Nat.beq k 267 then cL_pack else ⟨#[]⟩) else (bif Nat.beq k 268 then cL_rest else ⟨#[]⟩)))))))) else (bif Nat.blt k 314 then (bif Nat.blt k 291 then (bif Nat.blt k 280 then (bif Nat.blt k 274 then (bif Nat.blt k 271 then (bif Nat.blt k 270 then (bif Nat.beq k 269 then cL_restore else ⟨#[]⟩) else (bif Nat.beq k 270 then cL_sack else ⟨#[]⟩)) else (bif Nat.blt k 272 then (bif Nat.beq k 271 then cL_save else ⟨#[]⟩) else (bif Nat.blt k 273 then (bif Nat.beq k 272 then cL_set else ⟨#[]⟩) else (bif Nat.beq k 273 then cL_setting else ⟨#[]⟩)))) else (bif Nat.blt k 277 then (bif Nat.blt k 275 then (bif Nat.beq k 274 then cL_shift else ⟨#[]⟩) else (bif Nat.blt k 276 then (bif Nat.beq k 275 then cL_stage else ⟨#[]⟩) else (bif Nat.beq k 276 then cL_tiredBy else ⟨#[]⟩))) else (bif Nat.blt k 278 then (bif Nat.beq k 277 then cL_trip else ⟨#[]⟩) else (bif Nat.blt k 279 then (bif Nat.beq k 278 then cL_undo else ⟨#[]⟩) else (bif Nat.beq k 279 then cL_unpack else ⟨#[]⟩))))) else (bif Nat.blt k 285 then (bif Nat.blt k 282 then (bif Nat.blt k 281 then (bif Nat.beq k 280 then cL_value else ⟨#[]⟩) else (bif Nat.beq k 281 then cL_whyNoTrip else ⟨#[]⟩)) else (bif Nat.blt k 283 then (bif Nat.beq k 282 then cL_whyNot else ⟨#[]⟩) else (bif Nat.blt k 284 then (bif Nat.beq k 283 then cL_writeMule else ⟨#[]⟩) else (bif Nat.beq k 284 then cJ0_charAt_5068e else ⟨#[]⟩)))) else (bif Nat.blt k 288 then (bif Nat.blt k 286 then (bif Nat.beq k 285 then cJ0_checkBoundsBeginEnd_23922 else ⟨#[]⟩) else (bif Nat.blt k 287 then (bif Nat.beq k 286 then cJ0_checkBoundsOffCount_cabcc else ⟨#[]⟩) else (bif Nat.beq k 287 then cJ0_checkIndex_df160 else ⟨#[]⟩))) else (bif Nat.blt k 289 then (bif Nat.beq k 288 then cJ0_coder_7d493 else ⟨#[]⟩) else (bif Nat.blt k 290 then (bif Nat.beq k 289 then cJ0_getBytes_840e7 else ⟨#[]⟩) else (bif Nat.beq k 290 then cJ0_init_81219 else ⟨#[]⟩)))))) else (bif Nat.blt k 302 then (bif Nat.blt k 296 then (bif Nat.blt k 293 then (bif Nat.blt k 292 then (bif Nat.beq k 291 then cJ0_init_db425 else ⟨#[]⟩) else (bif Nat.beq k 292 then cJ0_isLatin1_aae02 else ⟨#[]⟩)) else (bif Nat.blt k 294 then (bif Nat.beq k 293 then cJ0_length_8abf5 else ⟨#[]⟩) else (bif Nat.blt k 295 then (bif Nat.beq k 294 then cJ1_canEncode_fc78d else ⟨#[]⟩) else (bif Nat.beq k 295 then cJ1_charAt_3b067 else ⟨#[]⟩)))) else (bif Nat.blt k 299 then (bif Nat.blt k 297 then (bif Nat.beq k 296 then cJ1_fillNull_b72d1 else ⟨#[]⟩) else (bif Nat.blt k 298 then (bif Nat.beq k 297 then cJ1_inflate_0e8fd else ⟨#[]⟩) else (bif Nat.beq k 298 then cJ2_charAt_3b067 else ⟨#[]⟩))) else (bif Nat.blt k 300 then (bif Nat.beq k 299 then cJ2_checkBoundsBeginEnd_d044e else ⟨#[]⟩) else (bif Nat.blt k 301 then (bif Nat.beq k 300 then cJ2_checkBoundsOffCount_d044e else ⟨#[]⟩) else (bif Nat.beq k 301 then cJ2_checkIndex_2214a else ⟨#[]⟩))))) else (bif Nat.blt k 308 then (bif Nat.blt k 305 then (bif Nat.blt k 303 then (bif Nat.beq k 302 then cJ2_coderFromArrayLen_85cad else ⟨#[]⟩) else (bif Nat.blt k 304 then (bif Nat.beq k 303 then cJ2_compress_39247 else ⟨#[]⟩) else (bif Nat.beq k 304 then cJ2_compress_5af95 else ⟨#[]⟩))) else (bif Nat.blt k 306 then (bif Nat.beq k 305 then cJ2_fillNull_b72d1 else ⟨#[]⟩) else (bif Nat.blt k 307 then (bif Nat.beq k 306 then cJ2_getChar_3b067 else ⟨#[]⟩) else (bif Nat.beq k 307 then cJ2_getChars_46870 else ⟨#[]⟩)))) else (bif Nat.blt k 311 then (bif Nat.blt k 309 then (bif Nat.beq k 308 then cJ2_getChars_ba4f3 else ⟨#[]⟩) else (bif Nat.blt k 310 then (bif Nat.beq k 309 then cJ2_inflate_0e8fd else ⟨#[]⟩) else (bif Nat.beq k 310 then cJ2_length_9d52b else ⟨#[]⟩))) else (bif Nat.blt k 312 then (bif Nat.beq k 311 then cJ2_newBytesFor_77867 else ⟨#[]⟩) else (bif Nat.blt k 313 then (bif Nat.beq k 312 then cJ2_newBytesLength_0f7a4 else ⟨#[]⟩) else (bif Nat.beq k 313 then cJ2_putCharSB_b72d1 else ⟨#[]⟩))))))) else (bif Nat.blt k 336 then (bif Nat.blt k 325 then (bif Nat.blt k 319 then (bif Nat.blt k 316 then (bif Nat.blt k 315 then (bif Nat.beq k 314 then cJ2_putChar_b72d1 else ⟨#[]⟩) else (bif Nat.beq k 315 then cJ2_putCharsAt_cd4e5 else ⟨#[]⟩)) else (bif Nat.blt k 317 then (bif Nat.beq k 316 then cJ3_checkFromIndexSize_8c36e else ⟨#[]⟩) else (bif Nat.blt k 318 then (bif Nat.beq k 317 then cJ3_checkFromToIndex_8c36e else ⟨#[]⟩) else (bif Nat.beq k 318 then cJ3_checkIndex_8e157 else ⟨#[]⟩)))) else (bif Nat.blt k 322 then (bif Nat.blt k 320 then (bif Nat.beq k 319 then cJ4_append_15ec4 else ⟨#[]⟩) else (bif Nat.blt k 321 then (bif Nat.beq k 320 then cJ4_append_bf812 else ⟨#[]⟩) else (bif Nat.beq k 321 then cJ4_append_cf468 else ⟨#[]⟩))) else (bif Nat.blt k 323 then (bif Nat.beq k 322 then cJ4_charAt_5068e else ⟨#[]⟩) else (bif Nat.blt k 324 then (bif Nat.beq k 323 then cJ4_init_da8c8 else ⟨#[]⟩) else (bif Nat.beq k 324 then cJ4_length_8abf5 else ⟨#[]⟩))))) else (bif Nat.blt k 330 then (bif Nat.blt k 327 then (bif Nat.blt k 326 then (bif Nat.beq k 325 then cJ4_setLength_d00df else ⟨#[]⟩) else (bif Nat.beq k 326 then cJ4_toString_0e30d else ⟨#[]⟩)) else (bif Nat.blt k 328 then (bif Nat.beq k 327 then cJ5_appendNull_278bc else ⟨#[]⟩) else (bif Nat.blt k 329 then (bif Nat.beq k 328 then cJ5_append_3fe6f else ⟨#[]⟩) else (bif Nat.beq k 329 then cJ5_append_c97b9 else ⟨#[]⟩)))) else (bif Nat.blt k 333 then (bif Nat.blt k 331 then (bif Nat.beq k 330 then cJ5_append_cf1ce else ⟨#[]⟩) else (bif Nat.blt k 332 then (bif Nat.beq k 331 then cJ5_charAt_5068e else ⟨#[]⟩) else (bif Nat.beq k 332 then cJ5_ensureCapacityInternal_d00df else ⟨#[]⟩))) else (bif Nat.blt k 334 then (bif Nat.beq k 333 then cJ5_getValue_6d5f1 else ⟨#[]⟩) else (bif Nat.blt k 335 then (bif Nat.beq k 334 then cJ5_inflateIfNeededFor_a7421 else ⟨#[]⟩) else (bif Nat.beq k 335 then cJ5_inflate_da8c8 else ⟨#[]⟩)))))) else (bif Nat.blt k 347 then (bif Nat.blt k 341 then (bif Nat.blt k 338 then (bif Nat.blt k 337 then (bif Nat.beq k 336 then cJ5_init_d00df else ⟨#[]⟩) else (bif Nat.beq k 337 then cJ5_isLatin1_aae02 else ⟨#[]⟩)) else (bif Nat.blt k 339 then (bif Nat.beq k 338 then cJ5_length_8abf5 else ⟨#[]⟩) else (bif Nat.blt k 340 then (bif Nat.beq k 339 then cJ5_newCapacity_0f7a4 else ⟨#[]⟩) else (bif Nat.beq k 340 then cJ5_putStringAt_47b60 else ⟨#[]⟩)))) else (bif Nat.blt k 344 then (bif Nat.blt k 342 then (bif Nat.beq k 341 then cJ5_setLength_d00df else ⟨#[]⟩) else (bif Nat.blt k 343 then (bif Nat.beq k 342 then cJ6_bitCount_0f7a4 else ⟨#[]⟩) else (bif Nat.beq k 343 then cJ6_getChars_ba4f3 else ⟨#[]⟩))) else (bif Nat.blt k 345 then (bif Nat.beq k 344 then cJ6_stringSize_0f7a4 else ⟨#[]⟩) else (bif Nat.blt k 346 then (bif Nat.beq k 345 then cJ7_checkLength_df160 else ⟨#[]⟩) else (bif Nat.beq k 346 then cJ7_copyOfRangeByte_39247 else ⟨#[]⟩))))) else (bif Nat.blt k 353 then (bif Nat.blt k 350 then (bif Nat.blt k 348 then (bif Nat.beq k 347 then cJ7_copyOfRange_39247 else ⟨#[]⟩) else (bif Nat.blt k 349 then (bif Nat.beq k 348 then cJ7_copyOf_9075b else ⟨#[]⟩) else (bif Nat.beq k 349 then cJ7_fill_eb02e else ⟨#[]⟩))) else (bif Nat.blt k 351 then (bif Nat.beq k 350 then cJ7_rangeCheck_23922 else ⟨#[]⟩) else (bif Nat.blt k 352 then (bif Nat.beq k 351 then cJ8_hugeLength_7cf53 else ⟨#[]⟩) else (bif Nat.beq k 352 then cJ8_newLength_cabcc else ⟨#[]⟩)))) else (bif Nat.blt k 356 then (bif Nat.blt k 354 then (bif Nat.beq k 353 then cJ9_abs_0f7a4 else ⟨#[]⟩) else (bif Nat.blt k 355 then (bif Nat.beq k 354 then cJ9_max_7cf53 else ⟨#[]⟩) else (bif Nat.beq k 355 then cJ9_min_7cf53 else ⟨#[]⟩))) else (bif Nat.blt k 357 then (bif Nat.beq k 356 then cJx00060_init_d00df else ⟨#[]⟩) else (bif Nat.blt k 358 then (bif Nat.beq k 357 then cJx7c733_init_d00df else ⟨#[]⟩) else (bif Nat.beq k 358 then cL_law else ⟨#[]⟩))))))))))
def mnm (k : Nat) : MethodName := (bif Nat.blt k 179 then (bif Nat.blt k 89 then (bif Nat.blt k 44 then (bif Nat.blt k 22 then (bif Nat.blt k 11 then (bif Nat.blt k 5 then (bif Nat.blt k 2 then (bif Nat.blt k 1 then (bif Nat.beq k 0 then yX0_bringBack else yL_law) else (bif Nat.beq k 1 then yX0_forget else yL_law)) else (bif Nat.blt k 3 then (bif Nat.beq k 2 then yX0_init else yL_law) else (bif Nat.blt k 4 then (bif Nat.beq k 3 then yX0_remember else yL_law) else (bif Nat.beq k 4 then yX1_beginText else yL_law)))) else (bif Nat.blt k 8 then (bif Nat.blt k 6 then (bif Nat.beq k 5 then yX1_byteAt else yL_law) else (bif Nat.blt k 7 then (bif Nat.beq k 6 then yX1_emptyText else yL_law) else (bif Nat.beq k 7 then yX1_endLine else yL_law))) else (bif Nat.blt k 9 then (bif Nat.beq k 8 then yX1_init else yL_law) else (bif Nat.blt k 10 then (bif Nat.beq k 9 then yX1_isNameOf else yL_law) else (bif Nat.beq k 10 then yX1_isWord else yL_law))))) else (bif Nat.blt k 16 then (bif Nat.blt k 13 then (bif Nat.blt k 12 then (bif Nat.beq k 11 then yX1_muleOfName else yL_law) else (bif Nat.beq k 12 then yX1_nextToken else yL_law)) else (bif Nat.blt k 14 then (bif Nat.beq k 13 then yX1_noteError else yL_law) else (bif Nat.blt k 15 then (bif Nat.beq k 14 then yX1_parseHead else yL_law) else (bif Nat.beq k 15 then yX1_parseKind else yL_law)))) else (bif Nat.blt k 19 then (bif Nat.blt k 17 then (bif Nat.beq k 16 then yX1_parseMule else yL_law) else (bif Nat.blt k 18 then (bif Nat.beq k 17 then yX1_parseName else yL_law) else (bif Nat.beq k 18 then yX1_parseNumber else yL_law))) else (bif Nat.blt k 20 then (bif Nat.beq k 19 then yX1_parsePack else yL_law) else (bif Nat.blt k 21 then (bif Nat.beq k 20 then yX1_parseRest else yL_law) else (bif Nat.beq k 21 then yX1_parseSack else yL_law)))))) else (bif Nat.blt k 33 then (bif Nat.blt k 27 then (bif Nat.blt k 24 then (bif Nat.blt k 23 then (bif Nat.beq k 22 then yX1_parseSide else yL_law) else (bif Nat.beq k 23 then yX1_parseStage else yL_law)) else (bif Nat.blt k 25 then (bif Nat.beq k 24 then yX1_parseText else yL_law) else (bif Nat.blt k 26 then (bif Nat.beq k 25 then yX1_passRun else yL_law) else (bif Nat.beq k 26 then yX1_skipBlanks else yL_law)))) else (bif Nat.blt k 30 then (bif Nat.blt k 28 then (bif Nat.beq k 27 then yX1_sortOf else yL_law) else (bif Nat.blt k 29 then (bif Nat.beq k 28 then yX1_writeByte else yL_law) else (bif Nat.beq k 29 then yX1_writeFour else yL_law))) else (bif Nat.blt k 31 then (bif Nat.beq k 30 then yX1_writeText else yL_law) else (bif Nat.blt k 32 then (bif Nat.beq k 31 then yX2_at else yL_law) else (bif Nat.beq k 32 then yX2_copyRows else yL_law))))) else (bif Nat.blt k 38 then (bif Nat.blt k 35 then (bif Nat.blt k 34 then (bif Nat.beq k 33 then yX2_dropRow else yL_law) else (bif Nat.beq k 34 then yX2_emptyRows else yL_law)) else (bif Nat.blt k 36 then (bif Nat.beq k 35 then yX2_init else yL_law) else (bif Nat.blt k 37 then (bif Nat.beq k 36 then yX2_isFull else yL_law) else (bif Nat.beq k 37 then yX2_newRow else yL_law)))) else (bif Nat.blt k 41 then (bif Nat.blt k 39 then (bif Nat.beq k 38 then yX2_put else yL_law) else (bif Nat.blt k 40 then (bif Nat.beq k 39 then yX3_bearing else yL_law) else (bif Nat.beq k 40 then yX3_become else yL_law))) else (bif Nat.blt k 42 then (bif Nat.beq k 41 then yX3_beginAnew else yL_law) else (bif Nat.blt k 43 then (bif Nat.beq k 42 then yX3_bestFor else yL_law) else (bif Nat.beq k 43 then yX3_crossFord else yL_law))))))) else (bif Nat.blt k 66 then (bif Nat.blt k 55 then (bif Nat.blt k 49 then (bif Nat.blt k 46 then (bif Nat.blt k 45 then (bif Nat.beq k 44 then yX3_deliverLoads else yL_law) else (bif Nat.beq k 45 then yX3_easeBy else yL_law)) else (bif Nat.blt k 47 then (bif Nat.beq k 46 then yX3_firstUnlevel else yL_law) else (bif Nat.blt k 48 then (bif Nat.beq k 47 then yX3_fordLimit else yL_law) else (bif Nat.beq k 48 then yX3_goRoad else yL_law)))) else (bif Nat.blt k 52 then (bif Nat.blt k 50 then (bif Nat.beq k 49 then yX3_init else yL_law) else (bif Nat.blt k 51 then (bif Nat.beq k 50 then yX3_isBetter else yL_law) else (bif Nat.beq k 51 then yX3_isLevel else yL_law))) else (bif Nat.blt k 53 then (bif Nat.beq k 52 then yX3_leastOn else yL_law) else (bif Nat.blt k 54 then (bif Nat.beq k 53 then yX3_leftward else yL_law) else (bif Nat.beq k 54 then yX3_letterOf else yL_law))))) else (bif Nat.blt k 60 then (bif Nat.blt k 57 then (bif Nat.blt k 56 then (bif Nat.beq k 55 then yX3_lighterSide else yL_law) else (bif Nat.beq k 56 then yX3_loadOn else yL_law)) else (bif Nat.blt k 58 then (bif Nat.beq k 57 then yX3_mayTravel else yL_law) else (bif Nat.blt k 59 then (bif Nat.beq k 58 then yX3_miles else yL_law) else (bif Nat.beq k 59 then yX3_moneyGap else yL_law)))) else (bif Nat.blt k 63 then (bif Nat.blt k 61 then (bif Nat.beq k 60 then yX3_mulesWithSacks else yL_law) else (bif Nat.blt k 62 then (bif Nat.beq k 61 then yX3_newSack else yL_law) else (bif Nat.beq k 62 then yX3_newStage else yL_law))) else (bif Nat.blt k 64 then (bif Nat.beq k 63 then yX3_overload else yL_law) else (bif Nat.blt k 65 then (bif Nat.beq k 64 then yX3_packBest else yL_law) else (bif Nat.beq k 65 then yX3_payWages else yL_law)))))) else (bif Nat.blt k 77 then (bif Nat.blt k 71 then (bif Nat.blt k 68 then (bif Nat.blt k 67 then (bif Nat.beq k 66 then yX3_putOn else yL_law) else (bif Nat.beq k 67 then yX3_reasonNotToGo else yL_law)) else (bif Nat.blt k 69 then (bif Nat.beq k 68 then yX3_reasonNotToPack else yL_law) else (bif Nat.blt k 70 then (bif Nat.beq k 69 then yX3_sacksIn else yL_law) else (bif Nat.beq k 70 then yX3_sacksOn else yL_law)))) else (bif Nat.blt k 74 then (bif Nat.blt k 72 then (bif Nat.beq k 71 then yX3_shedTo else yL_law) else (bif Nat.blt k 73 then (bif Nat.beq k 72 then yX3_stayFor else yL_law) else (bif Nat.beq k 73 then yX3_takeOff else yL_law))) else (bif Nat.blt k 75 then (bif Nat.beq k 74 then yX3_tiredTogether else yL_law) else (bif Nat.blt k 76 then (bif Nat.beq k 75 then yX3_travel else yL_law) else (bif Nat.beq k 76 then yX3_weightOn else yL_law))))) else (bif Nat.blt k 83 then (bif Nat.blt k 80 then (bif Nat.blt k 78 then (bif Nat.beq k 77 then yX3_wetSack else yL_law) else (bif Nat.blt k 79 then (bif Nat.beq k 78 then yX3_worthGap else yL_law) else (bif Nat.beq k 79 then yX3_worthOn else yL_law))) else (bif Nat.blt k 81 then (bif Nat.beq k 80 then yX4_addSack else yL_law) else (bif Nat.blt k 82 then (bif Nat.beq k 81 then yX4_addStage else yL_law) else (bif Nat.beq k 82 then yX4_bestSack else yL_law)))) else (bif Nat.blt k 86 then (bif Nat.blt k 84 then (bif Nat.beq k 83 then yX4_bestWorth else yL_law) else (bif Nat.blt k 85 then (bif Nat.beq k 84 then yX4_count else yL_law) else (bif Nat.beq k 85 then yX4_deepest else yL_law))) else (bif Nat.blt k 87 then (bif Nat.beq k 86 then yX4_dropStage else yL_law) else (bif Nat.blt k 88 then (bif Nat.beq k 87 then yX4_errorCode else yL_law) else (bif Nat.beq k 88 then yX4_errorPosition else yL_law)))))))) else (bif Nat.blt k 134 then (bif Nat.blt k 111 then (bif Nat.blt k 100 then (bif Nat.blt k 94 then (bif Nat.blt k 91 then (bif Nat.blt k 90 then (bif Nat.beq k 89 then yX4_fate else yL_law) else (bif Nat.beq k 90 then yX4_feed else yL_law)) else (bif Nat.blt k 92 then (bif Nat.beq k 91 then yX4_fill else yL_law) else (bif Nat.blt k 93 then (bif Nat.beq k 92 then yX4_filled else yL_law) else (bif Nat.beq k 93 then yX4_freshIn else yL_law)))) else (bif Nat.blt k 97 then (bif Nat.blt k 95 then (bif Nat.beq k 94 then yX4_gap else yL_law) else (bif Nat.blt k 96 then (bif Nat.beq k 95 then yX4_init else yL_law) else (bif Nat.beq k 96 then yX4_lighter else yL_law))) else (bif Nat.blt k 98 then (bif Nat.beq k 97 then yX4_load else yL_law) else (bif Nat.blt k 99 then (bif Nat.beq k 98 then yX4_mostOfSetting else yL_law) else (bif Nat.beq k 99 then yX4_mostOfStage else yL_law))))) else (bif Nat.blt k 105 then (bif Nat.blt k 102 then (bif Nat.blt k 101 then (bif Nat.beq k 100 then yX4_mule else yL_law) else (bif Nat.beq k 101 then yX4_muleFact else yL_law)) else (bif Nat.blt k 103 then (bif Nat.beq k 102 then yX4_nameByte else yL_law) else (bif Nat.blt k 104 then (bif Nat.beq k 103 then yX4_offerSack else yL_law) else (bif Nat.beq k 104 then yX4_outputByte else yL_law)))) else (bif Nat.blt k 108 then (bif Nat.blt k 106 then (bif Nat.beq k 105 then yX4_pack else yL_law) else (bif Nat.blt k 107 then (bif Nat.beq k 106 then yX4_requireMule else yL_law) else (bif Nat.beq k 107 then yX4_requireOnMule else yL_law))) else (bif Nat.blt k 109 then (bif Nat.beq k 108 then yX4_requireSack else yL_law) else (bif Nat.blt k 110 then (bif Nat.beq k 109 then yX4_requireSetting else yL_law) else (bif Nat.beq k 110 then yX4_requireSlot else yL_law)))))) else (bif Nat.blt k 122 then (bif Nat.blt k 116 then (bif Nat.blt k 113 then (bif Nat.blt k 112 then (bif Nat.beq k 111 then yX4_requireStage else yL_law) else (bif Nat.beq k 112 then yX4_rest else yL_law)) else (bif Nat.blt k 114 then (bif Nat.beq k 113 then yX4_restore else yL_law) else (bif Nat.blt k 115 then (bif Nat.beq k 114 then yX4_sack else yL_law) else (bif Nat.beq k 115 then yX4_save else yL_law)))) else (bif Nat.blt k 119 then (bif Nat.blt k 117 then (bif Nat.beq k 116 then yX4_set else yL_law) else (bif Nat.blt k 118 then (bif Nat.beq k 117 then yX4_setting else yL_law) else (bif Nat.beq k 118 then yX4_shift else yL_law))) else (bif Nat.blt k 120 then (bif Nat.beq k 119 then yX4_stage else yL_law) else (bif Nat.blt k 121 then (bif Nat.beq k 120 then yX4_stageWord else yL_law) else (bif Nat.beq k 121 then yX4_tiredBy else yL_law))))) else (bif Nat.blt k 128 then (bif Nat.blt k 125 then (bif Nat.blt k 123 then (bif Nat.beq k 122 then yX4_trip else yL_law) else (bif Nat.blt k 124 then (bif Nat.beq k 123 then yX4_tripBrings else yL_law) else (bif Nat.beq k 124 then yX4_undo else yL_law))) else (bif Nat.blt k 126 then (bif Nat.beq k 125 then yX4_unpack else yL_law) else (bif Nat.blt k 127 then (bif Nat.beq k 126 then yX4_value else yL_law) else (bif Nat.beq k 127 then yX4_whyNoTrip else yL_law)))) else (bif Nat.blt k 131 then (bif Nat.blt k 129 then (bif Nat.beq k 128 then yX4_whyNot else yL_law) else (bif Nat.blt k 130 then (bif Nat.beq k 129 then yX4_worthOfLoads else yL_law) else (bif Nat.beq k 130 then yX4_writeMule else yL_law))) else (bif Nat.blt k 132 then (bif Nat.beq k 131 then yX4_writeSide else yL_law) else (bif Nat.blt k 133 then (bif Nat.beq k 132 then yX4_writeWay else yL_law) else (bif Nat.beq k 133 then yX5_addSack else yL_law))))))) else (bif Nat.blt k 156 then (bif Nat.blt k 145 then (bif Nat.blt k 139 then (bif Nat.blt k 136 then (bif Nat.blt k 135 then (bif Nat.beq k 134 then yX5_addStage else yL_law) else (bif Nat.beq k 135 then yX5_atPlace else yL_law)) else (bif Nat.blt k 137 then (bif Nat.beq k 136 then yX5_bears else yL_law) else (bif Nat.blt k 138 then (bif Nat.beq k 137 then yX5_begins else yL_law) else (bif Nat.beq k 138 then yX5_bestFor else yL_law)))) else (bif Nat.blt k 142 then (bif Nat.blt k 140 then (bif Nat.beq k 139 then yX5_bestSack else yL_law) else (bif Nat.blt k 141 then (bif Nat.beq k 140 then yX5_bestWorth else yL_law) else (bif Nat.beq k 141 then yX5_breaks else yL_law))) else (bif Nat.blt k 143 then (bif Nat.beq k 142 then yX5_brings else yL_law) else (bif Nat.blt k 144 then (bif Nat.beq k 143 then yX5_count else yL_law) else (bif Nat.beq k 144 then yX5_counts else yL_law))))) else (bif Nat.blt k 150 then (bif Nat.blt k 147 then (bif Nat.blt k 146 then (bif Nat.beq k 145 then yX5_deepest else yL_law) else (bif Nat.beq k 146 then yX5_delivers else yL_law)) else (bif Nat.blt k 148 then (bif Nat.beq k 147 then yX5_dropStage else yL_law) else (bif Nat.blt k 149 then (bif Nat.beq k 148 then yX5_errorCode else yL_law) else (bif Nat.beq k 149 then yX5_errorPosition else yL_law)))) else (bif Nat.blt k 153 then (bif Nat.blt k 151 then (bif Nat.beq k 150 then yX5_errs else yL_law) else (bif Nat.blt k 152 then (bif Nat.beq k 151 then yX5_fate else yL_law) else (bif Nat.beq k 152 then yX5_feed else yL_law))) else (bif Nat.blt k 154 then (bif Nat.beq k 153 then yX5_feeds else yL_law) else (bif Nat.blt k 155 then (bif Nat.beq k 154 then yX5_fill else yL_law) else (bif Nat.beq k 155 then yX5_filled else yL_law)))))) else (bif Nat.blt k 167 then (bif Nat.blt k 161 then (bif Nat.blt k 158 then (bif Nat.blt k 157 then (bif Nat.beq k 156 then yX5_firstTilted else yL_law) else (bif Nat.beq k 157 then yX5_fordLimit else yL_law)) else (bif Nat.blt k 159 then (bif Nat.beq k 158 then yX5_fords else yL_law) else (bif Nat.blt k 160 then (bif Nat.beq k 159 then yX5_freshIn else yL_law) else (bif Nat.beq k 160 then yX5_gap else yL_law)))) else (bif Nat.blt k 164 then (bif Nat.blt k 162 then (bif Nat.beq k 161 then yX5_goesOn else yL_law) else (bif Nat.blt k 163 then (bif Nat.beq k 162 then yX5_here else yL_law) else (bif Nat.beq k 163 then yX5_in else yL_law))) else (bif Nat.blt k 165 then (bif Nat.beq k 164 then yX5_init else yL_law) else (bif Nat.blt k 166 then (bif Nat.beq k 165 then yX5_isAnyPacked else yL_law) else (bif Nat.beq k 166 then yX5_isDigit else yL_law))))) else (bif Nat.blt k 173 then (bif Nat.blt k 170 then (bif Nat.blt k 168 then (bif Nat.beq k 167 then yX5_isKey else yL_law) else (bif Nat.blt k 169 then (bif Nat.beq k 168 then yX5_isLetter else yL_law) else (bif Nat.beq k 169 then yX5_isLevel else yL_law))) else (bif Nat.blt k 171 then (bif Nat.beq k 170 then yX5_isMule else yL_law) else (bif Nat.blt k 172 then (bif Nat.beq k 171 then yX5_isName else yL_law) else (bif Nat.beq k 172 then yX5_isOn else yL_law)))) else (bif Nat.blt k 176 then (bif Nat.blt k 174 then (bif Nat.beq k 173 then yX5_isPacked else yL_law) else (bif Nat.blt k 175 then (bif Nat.beq k 174 then yX5_isSack else yL_law) else (bif Nat.beq k 175 then yX5_isStage else yL_law))) else (bif Nat.blt k 177 then (bif Nat.beq k 176 then yX5_leads else yL_law) else (bif Nat.blt k 178 then (bif Nat.beq k 177 then yX5_leaves else yL_law) else (bif Nat.beq k 178 then yX5_lettersOf else yL_law))))))))) else (bif Nat.blt k 269 then (bif Nat.blt k 224 then (bif Nat.blt k 201 then (bif Nat.blt k 190 then (bif Nat.blt k 184 then (bif Nat.blt k 181 then (bif Nat.blt k 180 then (bif Nat.beq k 179 then yX5_lighter else yL_law) else (bif Nat.beq k 180 then yX5_lighterOf else yL_law)) else (bif Nat.blt k 182 then (bif Nat.beq k 181 then yX5_load else yL_law) else (bif Nat.blt k 183 then (bif Nat.beq k 182 then yX5_loadOf else yL_law) else (bif Nat.beq k 183 then yX5_m else yL_law)))) else (bif Nat.blt k 187 then (bif Nat.blt k 185 then (bif Nat.beq k 184 then yX5_milesAll else yL_law) else (bif Nat.blt k 186 then (bif Nat.beq k 185 then yX5_mule else yL_law) else (bif Nat.beq k 186 then yX5_muleHere else yL_law))) else (bif Nat.blt k 188 then (bif Nat.beq k 187 then yX5_nameByte else yL_law) else (bif Nat.blt k 189 then (bif Nat.beq k 188 then yX5_next else yL_law) else (bif Nat.beq k 189 then yX5_outputByte else yL_law))))) else (bif Nat.blt k 195 then (bif Nat.blt k 192 then (bif Nat.blt k 191 then (bif Nat.beq k 190 then yX5_pack else yL_law) else (bif Nat.beq k 191 then yX5_packReason else yL_law)) else (bif Nat.blt k 193 then (bif Nat.beq k 192 then yX5_packs else yL_law) else (bif Nat.blt k 194 then (bif Nat.beq k 193 then yX5_passes else yL_law) else (bif Nat.beq k 194 then yX5_poorestOn else yL_law)))) else (bif Nat.blt k 198 then (bif Nat.blt k 196 then (bif Nat.beq k 195 then yX5_putsAside else yL_law) else (bif Nat.blt k 197 then (bif Nat.beq k 196 then yX5_putsBack else yL_law) else (bif Nat.beq k 197 then yX5_readsLine else yL_law))) else (bif Nat.blt k 199 then (bif Nat.beq k 198 then yX5_readsMule else yL_law) else (bif Nat.blt k 200 then (bif Nat.beq k 199 then yX5_readsPack else yL_law) else (bif Nat.beq k 200 then yX5_readsRest else yL_law)))))) else (bif Nat.blt k 212 then (bif Nat.blt k 206 then (bif Nat.blt k 203 then (bif Nat.blt k 202 then (bif Nat.beq k 201 then yX5_readsSack else yL_law) else (bif Nat.beq k 202 then yX5_readsStage else yL_law)) else (bif Nat.blt k 204 then (bif Nat.beq k 203 then yX5_readsText else yL_law) else (bif Nat.blt k 205 then (bif Nat.beq k 204 then yX5_readsTrip else yL_law) else (bif Nat.beq k 205 then yX5_refuse else yL_law)))) else (bif Nat.blt k 209 then (bif Nat.blt k 207 then (bif Nat.beq k 206 then yX5_remembers else yL_law) else (bif Nat.blt k 208 then (bif Nat.beq k 207 then yX5_rest else yL_law) else (bif Nat.beq k 208 then yX5_restore else yL_law))) else (bif Nat.blt k 210 then (bif Nat.beq k 209 then yX5_rests else yL_law) else (bif Nat.blt k 211 then (bif Nat.beq k 210 then yX5_roads else yL_law) else (bif Nat.beq k 211 then yX5_s else yL_law))))) else (bif Nat.blt k 218 then (bif Nat.blt k 215 then (bif Nat.blt k 213 then (bif Nat.beq k 212 then yX5_sack else yL_law) else (bif Nat.blt k 214 then (bif Nat.beq k 213 then yX5_sacksOn else yL_law) else (bif Nat.beq k 214 then yX5_save else yL_law))) else (bif Nat.blt k 216 then (bif Nat.beq k 215 then yX5_set else yL_law) else (bif Nat.blt k 217 then (bif Nat.beq k 216 then yX5_setting else yL_law) else (bif Nat.beq k 217 then yX5_sheds else yL_law)))) else (bif Nat.blt k 221 then (bif Nat.blt k 219 then (bif Nat.beq k 218 then yX5_shift else yL_law) else (bif Nat.blt k 220 then (bif Nat.beq k 219 then yX5_stage else yL_law) else (bif Nat.beq k 220 then yX5_t else yL_law))) else (bif Nat.blt k 222 then (bif Nat.beq k 221 then yX5_takesNumber else yL_law) else (bif Nat.blt k 223 then (bif Nat.beq k 222 then yX5_takesOneOf else yL_law) else (bif Nat.beq k 223 then yX5_thrown else yL_law))))))) else (bif Nat.blt k 246 then (bif Nat.blt k 235 then (bif Nat.blt k 229 then (bif Nat.blt k 226 then (bif Nat.blt k 225 then (bif Nat.beq k 224 then yX5_tilt else yL_law) else (bif Nat.beq k 225 then yX5_tiredBy else yL_law)) else (bif Nat.blt k 227 then (bif Nat.beq k 226 then yX5_tires else yL_law) else (bif Nat.blt k 228 then (bif Nat.beq k 227 then yX5_told else yL_law) else (bif Nat.beq k 228 then yX5_trip else yL_law)))) else (bif Nat.blt k 232 then (bif Nat.blt k 230 then (bif Nat.beq k 229 then yX5_tripBrings else yL_law) else (bif Nat.blt k 231 then (bif Nat.beq k 230 then yX5_tripReason else yL_law) else (bif Nat.beq k 231 then yX5_trips else yL_law))) else (bif Nat.blt k 233 then (bif Nat.beq k 232 then yX5_undo else yL_law) else (bif Nat.blt k 234 then (bif Nat.beq k 233 then yX5_unpack else yL_law) else (bif Nat.beq k 234 then yX5_value else yL_law))))) else (bif Nat.blt k 240 then (bif Nat.blt k 237 then (bif Nat.blt k 236 then (bif Nat.beq k 235 then yX5_weightOf else yL_law) else (bif Nat.beq k 236 then yX5_weightOn else yL_law)) else (bif Nat.blt k 238 then (bif Nat.beq k 237 then yX5_wetWorth else yL_law) else (bif Nat.blt k 239 then (bif Nat.beq k 238 then yX5_wets else yL_law) else (bif Nat.beq k 239 then yX5_whyNoTrip else yL_law)))) else (bif Nat.blt k 243 then (bif Nat.blt k 241 then (bif Nat.beq k 240 then yX5_whyNot else yL_law) else (bif Nat.blt k 242 then (bif Nat.beq k 241 then yX5_without else yL_law) else (bif Nat.beq k 242 then yX5_worthOf else yL_law))) else (bif Nat.blt k 244 then (bif Nat.beq k 243 then yX5_worthOfLoads else yL_law) else (bif Nat.blt k 245 then (bif Nat.beq k 244 then yX5_worthOn else yL_law) else (bif Nat.beq k 245 then yX5_writeMule else yL_law)))))) else (bif Nat.blt k 257 then (bif Nat.blt k 251 then (bif Nat.blt k 248 then (bif Nat.blt k 247 then (bif Nat.beq k 246 then yX5_writeWay else yL_law) else (bif Nat.beq k 247 then yX5_writes else yL_law)) else (bif Nat.blt k 249 then (bif Nat.beq k 248 then yX5_writesNumber else yL_law) else (bif Nat.blt k 250 then (bif Nat.beq k 249 then yX5_writesSide else yL_law) else (bif Nat.beq k 250 then yL_addSack else yL_law)))) else (bif Nat.blt k 254 then (bif Nat.blt k 252 then (bif Nat.beq k 251 then yL_addStage else yL_law) else (bif Nat.blt k 253 then (bif Nat.beq k 252 then yL_bestSack else yL_law) else (bif Nat.beq k 253 then yL_bestWorth else yL_law))) else (bif Nat.blt k 255 then (bif Nat.beq k 254 then yL_count else yL_law) else (bif Nat.blt k 256 then (bif Nat.beq k 255 then yL_deepest else yL_law) else (bif Nat.beq k 256 then yL_dropStage else yL_law))))) else (bif Nat.blt k 263 then (bif Nat.blt k 260 then (bif Nat.blt k 258 then (bif Nat.beq k 257 then yL_fate else yL_law) else (bif Nat.blt k 259 then (bif Nat.beq k 258 then yL_feed else yL_law) else (bif Nat.beq k 259 then yL_fill else yL_law))) else (bif Nat.blt k 261 then (bif Nat.beq k 260 then yL_filled else yL_law) else (bif Nat.blt k 262 then (bif Nat.beq k 261 then yL_freshIn else yL_law) else (bif Nat.beq k 262 then yL_lighter else yL_law)))) else (bif Nat.blt k 266 then (bif Nat.blt k 264 then (bif Nat.beq k 263 then yL_load else yL_law) else (bif Nat.blt k 265 then (bif Nat.beq k 264 then yL_mule else yL_law) else (bif Nat.beq k 265 then yL_nameByte else yL_law))) else (bif Nat.blt k 267 then (bif Nat.beq k 266 then yL_outputByte else yL_law) else (bif Nat.blt k 268 then (bif Nat.beq k 267 then yL_pack else yL_law) else (bif Nat.beq k 268 then yL_rest else yL_law)))))))) else (bif Nat.blt k 314 then (bif Nat.blt k 291 then (bif Nat.blt k 280 then (bif Nat.blt k 274 then (bif Nat.blt k 271 then (bif Nat.blt k 270 then (bif Nat.beq k 269 then yL_restore else yL_law) else (bif Nat.beq k 270 then yL_sack else yL_law)) else (bif Nat.blt k 272 then (bif Nat.beq k 271 then yL_save else yL_law) else (bif Nat.blt k 273 then (bif Nat.beq k 272 then yL_set else yL_law) else (bif Nat.beq k 273 then yL_setting else yL_law)))) else (bif Nat.blt k 277 then (bif Nat.blt k 275 then (bif Nat.beq k 274 then yL_shift else yL_law) else (bif Nat.blt k 276 then (bif Nat.beq k 275 then yL_stage else yL_law) else (bif Nat.beq k 276 then yL_tiredBy else yL_law))) else (bif Nat.blt k 278 then (bif Nat.beq k 277 then yL_trip else yL_law) else (bif Nat.blt k 279 then (bif Nat.beq k 278 then yL_undo else yL_law) else (bif Nat.beq k 279 then yL_unpack else yL_law))))) else (bif Nat.blt k 285 then (bif Nat.blt k 282 then (bif Nat.blt k 281 then (bif Nat.beq k 280 then yL_value else yL_law) else (bif Nat.beq k 281 then yL_whyNoTrip else yL_law)) else (bif Nat.blt k 283 then (bif Nat.beq k 282 then yL_whyNot else yL_law) else (bif Nat.blt k 284 then (bif Nat.beq k 283 then yL_writeMule else yL_law) else (bif Nat.beq k 284 then yJ0_charAt_5068e else yL_law)))) else (bif Nat.blt k 288 then (bif Nat.blt k 286 then (bif Nat.beq k 285 then yJ0_checkBoundsBeginEnd_23922 else yL_law) else (bif Nat.blt k 287 then (bif Nat.beq k 286 then yJ0_checkBoundsOffCount_cabcc else yL_law) else (bif Nat.beq k 287 then yJ0_checkIndex_df160 else yL_law))) else (bif Nat.blt k 289 then (bif Nat.beq k 288 then yJ0_coder_7d493 else yL_law) else (bif Nat.blt k 290 then (bif Nat.beq k 289 then yJ0_getBytes_840e7 else yL_law) else (bif Nat.beq k 290 then yJ0_init_81219 else yL_law)))))) else (bif Nat.blt k 302 then (bif Nat.blt k 296 then (bif Nat.blt k 293 then (bif Nat.blt k 292 then (bif Nat.beq k 291 then yJ0_init_db425 else yL_law) else (bif Nat.beq k 292 then yJ0_isLatin1_aae02 else yL_law)) else (bif Nat.blt k 294 then (bif Nat.beq k 293 then yJ0_length_8abf5 else yL_law) else (bif Nat.blt k 295 then (bif Nat.beq k 294 then yJ1_canEncode_fc78d else yL_law) else (bif Nat.beq k 295 then yJ1_charAt_3b067 else yL_law)))) else (bif Nat.blt k 299 then (bif Nat.blt k 297 then (bif Nat.beq k 296 then yJ1_fillNull_b72d1 else yL_law) else (bif Nat.blt k 298 then (bif Nat.beq k 297 then yJ1_inflate_0e8fd else yL_law) else (bif Nat.beq k 298 then yJ2_charAt_3b067 else yL_law))) else (bif Nat.blt k 300 then (bif Nat.beq k 299 then yJ2_checkBoundsBeginEnd_d044e else yL_law) else (bif Nat.blt k 301 then (bif Nat.beq k 300 then yJ2_checkBoundsOffCount_d044e else yL_law) else (bif Nat.beq k 301 then yJ2_checkIndex_2214a else yL_law))))) else (bif Nat.blt k 308 then (bif Nat.blt k 305 then (bif Nat.blt k 303 then (bif Nat.beq k 302 then yJ2_coderFromArrayLen_85cad else yL_law) else (bif Nat.blt k 304 then (bif Nat.beq k 303 then yJ2_compress_39247 else yL_law) else (bif Nat.beq k 304 then yJ2_compress_5af95 else yL_law))) else (bif Nat.blt k 306 then (bif Nat.beq k 305 then yJ2_fillNull_b72d1 else yL_law) else (bif Nat.blt k 307 then (bif Nat.beq k 306 then yJ2_getChar_3b067 else yL_law) else (bif Nat.beq k 307 then yJ2_getChars_46870 else yL_law)))) else (bif Nat.blt k 311 then (bif Nat.blt k 309 then (bif Nat.beq k 308 then yJ2_getChars_ba4f3 else yL_law) else (bif Nat.blt k 310 then (bif Nat.beq k 309 then yJ2_inflate_0e8fd else yL_law) else (bif Nat.beq k 310 then yJ2_length_9d52b else yL_law))) else (bif Nat.blt k 312 then (bif Nat.beq k 311 then yJ2_newBytesFor_77867 else yL_law) else (bif Nat.blt k 313 then (bif Nat.beq k 312 then yJ2_newBytesLength_0f7a4 else yL_law) else (bif Nat.beq k 313 then yJ2_putCharSB_b72d1 else yL_law))))))) else (bif Nat.blt k 336 then (bif Nat.blt k 325 then (bif Nat.blt k 319 then (bif Nat.blt k 316 then (bif Nat.blt k 315 then (bif Nat.beq k 314 then yJ2_putChar_b72d1 else yL_law) else (bif Nat.beq k 315 then yJ2_putCharsAt_cd4e5 else yL_law)) else (bif Nat.blt k 317 then (bif Nat.beq k 316 then yJ3_checkFromIndexSize_8c36e else yL_law) else (bif Nat.blt k 318 then (bif Nat.beq k 317 then yJ3_checkFromToIndex_8c36e else yL_law) else (bif Nat.beq k 318 then yJ3_checkIndex_8e157 else yL_law)))) else (bif Nat.blt k 322 then (bif Nat.blt k 320 then (bif Nat.beq k 319 then yJ4_append_15ec4 else yL_law) else (bif Nat.blt k 321 then (bif Nat.beq k 320 then yJ4_append_bf812 else yL_law) else (bif Nat.beq k 321 then yJ4_append_cf468 else yL_law))) else (bif Nat.blt k 323 then (bif Nat.beq k 322 then yJ4_charAt_5068e else yL_law) else (bif Nat.blt k 324 then (bif Nat.beq k 323 then yJ4_init_da8c8 else yL_law) else (bif Nat.beq k 324 then yJ4_length_8abf5 else yL_law))))) else (bif Nat.blt k 330 then (bif Nat.blt k 327 then (bif Nat.blt k 326 then (bif Nat.beq k 325 then yJ4_setLength_d00df else yL_law) else (bif Nat.beq k 326 then yJ4_toString_0e30d else yL_law)) else (bif Nat.blt k 328 then (bif Nat.beq k 327 then yJ5_appendNull_278bc else yL_law) else (bif Nat.blt k 329 then (bif Nat.beq k 328 then yJ5_append_3fe6f else yL_law) else (bif Nat.beq k 329 then yJ5_append_c97b9 else yL_law)))) else (bif Nat.blt k 333 then (bif Nat.blt k 331 then (bif Nat.beq k 330 then yJ5_append_cf1ce else yL_law) else (bif Nat.blt k 332 then (bif Nat.beq k 331 then yJ5_charAt_5068e else yL_law) else (bif Nat.beq k 332 then yJ5_ensureCapacityInternal_d00df else yL_law))) else (bif Nat.blt k 334 then (bif Nat.beq k 333 then yJ5_getValue_6d5f1 else yL_law) else (bif Nat.blt k 335 then (bif Nat.beq k 334 then yJ5_inflateIfNeededFor_a7421 else yL_law) else (bif Nat.beq k 335 then yJ5_inflate_da8c8 else yL_law)))))) else (bif Nat.blt k 347 then (bif Nat.blt k 341 then (bif Nat.blt k 338 then (bif Nat.blt k 337 then (bif Nat.beq k 336 then yJ5_init_d00df else yL_law) else (bif Nat.beq k 337 then yJ5_isLatin1_aae02 else yL_law)) else (bif Nat.blt k 339 then (bif Nat.beq k 338 then yJ5_length_8abf5 else yL_law) else (bif Nat.blt k 340 then (bif Nat.beq k 339 then yJ5_newCapacity_0f7a4 else yL_law) else (bif Nat.beq k 340 then yJ5_putStringAt_47b60 else yL_law)))) else (bif Nat.blt k 344 then (bif Nat.blt k 342 then (bif Nat.beq k 341 then yJ5_setLength_d00df else yL_law) else (bif Nat.blt k 343 then (bif Nat.beq k 342 then yJ6_bitCount_0f7a4 else yL_law) else (bif Nat.beq k 343 then yJ6_getChars_ba4f3 else yL_law))) else (bif Nat.blt k 345 then (bif Nat.beq k 344 then yJ6_stringSize_0f7a4 else yL_law) else (bif Nat.blt k 346 then (bif Nat.beq k 345 then yJ7_checkLength_df160 else yL_law) else (bif Nat.beq k 346 then yJ7_copyOfRangeByte_39247 else yL_law))))) else (bif Nat.blt k 353 then (bif Nat.blt k 350 then (bif Nat.blt k 348 then (bif Nat.beq k 347 then yJ7_copyOfRange_39247 else yL_law) else (bif Nat.blt k 349 then (bif Nat.beq k 348 then yJ7_copyOf_9075b else yL_law) else (bif Nat.beq k 349 then yJ7_fill_eb02e else yL_law))) else (bif Nat.blt k 351 then (bif Nat.beq k 350 then yJ7_rangeCheck_23922 else yL_law) else (bif Nat.blt k 352 then (bif Nat.beq k 351 then yJ8_hugeLength_7cf53 else yL_law) else (bif Nat.beq k 352 then yJ8_newLength_cabcc else yL_law)))) else (bif Nat.blt k 356 then (bif Nat.blt k 354 then (bif Nat.beq k 353 then yJ9_abs_0f7a4 else yL_law) else (bif Nat.blt k 355 then (bif Nat.beq k 354 then yJ9_max_7cf53 else yL_law) else (bif Nat.beq k 355 then yJ9_min_7cf53 else yL_law))) else (bif Nat.blt k 357 then (bif Nat.beq k 356 then yJx00060_init_d00df else yL_law) else (bif Nat.blt k 358 then (bif Nat.beq k 357 then yJx7c733_init_d00df else yL_law) else (bif Nat.beq k 358 then yL_law else yL_law))))))))))
def mml (k : Nat) : Nat := (bif Nat.blt k 179 then (bif Nat.blt k 89 then (bif Nat.blt k 44 then (bif Nat.blt k 22 then (bif Nat.blt k 11 then (bif Nat.blt k 5 then (bif Nat.blt k 2 then (bif Nat.blt k 1 then (bif Nat.beq k 0 then 3 else 0) else (bif Nat.beq k 1 then 1 else 0)) else (bif Nat.blt k 3 then (bif Nat.beq k 2 then 2 else 0) else (bif Nat.blt k 4 then (bif Nat.beq k 3 then 2 else 0) else (bif Nat.beq k 4 then 2 else 0)))) else (bif Nat.blt k 8 then (bif Nat.blt k 6 then (bif Nat.beq k 5 then 2 else 0) else (bif Nat.blt k 7 then (bif Nat.beq k 6 then 1 else 0) else (bif Nat.beq k 7 then 1 else 0))) else (bif Nat.blt k 9 then (bif Nat.beq k 8 then 1 else 0) else (bif Nat.blt k 10 then (bif Nat.beq k 9 then 3 else 0) else (bif Nat.beq k 10 then 3 else 0))))) else (bif Nat.blt k 16 then (bif Nat.blt k 13 then (bif Nat.blt k 12 then (bif Nat.beq k 11 then 2 else 0) else (bif Nat.beq k 12 then 2 else 0)) else (bif Nat.blt k 14 then (bif Nat.beq k 13 then 2 else 0) else (bif Nat.blt k 15 then (bif Nat.beq k 14 then 2 else 0) else (bif Nat.beq k 15 then 1 else 0)))) else (bif Nat.blt k 19 then (bif Nat.blt k 17 then (bif Nat.beq k 16 then 3 else 0) else (bif Nat.blt k 18 then (bif Nat.beq k 17 then 1 else 0) else (bif Nat.beq k 18 then 3 else 0))) else (bif Nat.blt k 20 then (bif Nat.beq k 19 then 4 else 0) else (bif Nat.blt k 21 then (bif Nat.beq k 20 then 2 else 0) else (bif Nat.beq k 21 then 4 else 0)))))) else (bif Nat.blt k 33 then (bif Nat.blt k 27 then (bif Nat.blt k 24 then (bif Nat.blt k 23 then (bif Nat.beq k 22 then 1 else 0) else (bif Nat.beq k 23 then 3 else 0)) else (bif Nat.blt k 25 then (bif Nat.beq k 24 then 3 else 0) else (bif Nat.blt k 26 then (bif Nat.beq k 25 then 1 else 0) else (bif Nat.beq k 26 then 1 else 0)))) else (bif Nat.blt k 30 then (bif Nat.blt k 28 then (bif Nat.beq k 27 then 1 else 0) else (bif Nat.blt k 29 then (bif Nat.beq k 28 then 2 else 0) else (bif Nat.beq k 29 then 2 else 0))) else (bif Nat.blt k 31 then (bif Nat.beq k 30 then 3 else 0) else (bif Nat.blt k 32 then (bif Nat.beq k 31 then 4 else 0) else (bif Nat.beq k 32 then 2 else 0))))) else (bif Nat.blt k 38 then (bif Nat.blt k 35 then (bif Nat.blt k 34 then (bif Nat.beq k 33 then 4 else 0) else (bif Nat.beq k 34 then 1 else 0)) else (bif Nat.blt k 36 then (bif Nat.beq k 35 then 3 else 0) else (bif Nat.blt k 37 then (bif Nat.beq k 36 then 1 else 0) else (bif Nat.beq k 37 then 3 else 0)))) else (bif Nat.blt k 41 then (bif Nat.blt k 39 then (bif Nat.beq k 38 then 5 else 0) else (bif Nat.blt k 40 then (bif Nat.beq k 39 then 2 else 0) else (bif Nat.beq k 40 then 2 else 0))) else (bif Nat.blt k 42 then (bif Nat.beq k 41 then 2 else 0) else (bif Nat.blt k 43 then (bif Nat.beq k 42 then 4 else 0) else (bif Nat.beq k 43 then 5 else 0))))))) else (bif Nat.blt k 66 then (bif Nat.blt k 55 then (bif Nat.blt k 49 then (bif Nat.blt k 46 then (bif Nat.blt k 45 then (bif Nat.beq k 44 then 2 else 0) else (bif Nat.beq k 45 then 3 else 0)) else (bif Nat.blt k 47 then (bif Nat.beq k 46 then 2 else 0) else (bif Nat.blt k 48 then (bif Nat.beq k 47 then 3 else 0) else (bif Nat.beq k 48 then 6 else 0)))) else (bif Nat.blt k 52 then (bif Nat.blt k 50 then (bif Nat.beq k 49 then 1 else 0) else (bif Nat.blt k 51 then (bif Nat.beq k 50 then 4 else 0) else (bif Nat.beq k 51 then 2 else 0))) else (bif Nat.blt k 53 then (bif Nat.beq k 52 then 5 else 0) else (bif Nat.blt k 54 then (bif Nat.beq k 53 then 4 else 0) else (bif Nat.beq k 54 then 3 else 0))))) else (bif Nat.blt k 60 then (bif Nat.blt k 57 then (bif Nat.blt k 56 then (bif Nat.beq k 55 then 2 else 0) else (bif Nat.beq k 56 then 4 else 0)) else (bif Nat.blt k 58 then (bif Nat.beq k 57 then 1 else 0) else (bif Nat.blt k 59 then (bif Nat.beq k 58 then 3 else 0) else (bif Nat.beq k 59 then 1 else 0)))) else (bif Nat.blt k 63 then (bif Nat.blt k 61 then (bif Nat.beq k 60 then 4 else 0) else (bif Nat.blt k 62 then (bif Nat.beq k 61 then 5 else 0) else (bif Nat.beq k 62 then 4 else 0))) else (bif Nat.blt k 64 then (bif Nat.beq k 63 then 3 else 0) else (bif Nat.blt k 65 then (bif Nat.beq k 64 then 4 else 0) else (bif Nat.beq k 65 then 2 else 0)))))) else (bif Nat.blt k 77 then (bif Nat.blt k 71 then (bif Nat.blt k 68 then (bif Nat.blt k 67 then (bif Nat.beq k 66 then 4 else 0) else (bif Nat.beq k 67 then 1 else 0)) else (bif Nat.blt k 69 then (bif Nat.beq k 68 then 3 else 0) else (bif Nat.blt k 70 then (bif Nat.beq k 69 then 4 else 0) else (bif Nat.beq k 70 then 4 else 0)))) else (bif Nat.blt k 74 then (bif Nat.blt k 72 then (bif Nat.beq k 71 then 7 else 0) else (bif Nat.blt k 73 then (bif Nat.beq k 72 then 3 else 0) else (bif Nat.beq k 73 then 3 else 0))) else (bif Nat.blt k 75 then (bif Nat.beq k 74 then 3 else 0) else (bif Nat.blt k 76 then (bif Nat.beq k 75 then 7 else 0) else (bif Nat.beq k 76 then 5 else 0))))) else (bif Nat.blt k 83 then (bif Nat.blt k 80 then (bif Nat.blt k 78 then (bif Nat.beq k 77 then 5 else 0) else (bif Nat.blt k 79 then (bif Nat.beq k 78 then 5 else 0) else (bif Nat.beq k 79 then 4 else 0))) else (bif Nat.blt k 81 then (bif Nat.beq k 80 then 4 else 0) else (bif Nat.blt k 82 then (bif Nat.beq k 81 then 3 else 0) else (bif Nat.beq k 82 then 2 else 0)))) else (bif Nat.blt k 86 then (bif Nat.blt k 84 then (bif Nat.beq k 83 then 4 else 0) else (bif Nat.blt k 85 then (bif Nat.beq k 84 then 2 else 0) else (bif Nat.beq k 85 then 4 else 0))) else (bif Nat.blt k 87 then (bif Nat.beq k 86 then 2 else 0) else (bif Nat.blt k 88 then (bif Nat.beq k 87 then 1 else 0) else (bif Nat.beq k 88 then 1 else 0)))))))) else (bif Nat.blt k 134 then (bif Nat.blt k 111 then (bif Nat.blt k 100 then (bif Nat.blt k 94 then (bif Nat.blt k 91 then (bif Nat.blt k 90 then (bif Nat.beq k 89 then 2 else 0) else (bif Nat.beq k 90 then 6 else 0)) else (bif Nat.blt k 92 then (bif Nat.beq k 91 then 2 else 0) else (bif Nat.blt k 93 then (bif Nat.beq k 92 then 3 else 0) else (bif Nat.beq k 93 then 4 else 0)))) else (bif Nat.blt k 97 then (bif Nat.blt k 95 then (bif Nat.beq k 94 then 1 else 0) else (bif Nat.blt k 96 then (bif Nat.beq k 95 then 5 else 0) else (bif Nat.beq k 96 then 2 else 0))) else (bif Nat.blt k 98 then (bif Nat.beq k 97 then 3 else 0) else (bif Nat.blt k 99 then (bif Nat.beq k 98 then 1 else 0) else (bif Nat.beq k 99 then 1 else 0))))) else (bif Nat.blt k 105 then (bif Nat.blt k 102 then (bif Nat.blt k 101 then (bif Nat.beq k 100 then 3 else 0) else (bif Nat.beq k 101 then 3 else 0)) else (bif Nat.blt k 103 then (bif Nat.beq k 102 then 3 else 0) else (bif Nat.blt k 104 then (bif Nat.beq k 103 then 5 else 0) else (bif Nat.beq k 104 then 2 else 0)))) else (bif Nat.blt k 108 then (bif Nat.blt k 106 then (bif Nat.beq k 105 then 4 else 0) else (bif Nat.blt k 107 then (bif Nat.beq k 106 then 2 else 0) else (bif Nat.beq k 107 then 2 else 0))) else (bif Nat.blt k 109 then (bif Nat.beq k 108 then 2 else 0) else (bif Nat.blt k 110 then (bif Nat.beq k 109 then 2 else 0) else (bif Nat.beq k 110 then 2 else 0)))))) else (bif Nat.blt k 122 then (bif Nat.blt k 116 then (bif Nat.blt k 113 then (bif Nat.blt k 112 then (bif Nat.beq k 111 then 2 else 0) else (bif Nat.beq k 112 then 2 else 0)) else (bif Nat.blt k 114 then (bif Nat.beq k 113 then 3 else 0) else (bif Nat.blt k 115 then (bif Nat.beq k 114 then 3 else 0) else (bif Nat.beq k 115 then 5 else 0)))) else (bif Nat.blt k 119 then (bif Nat.blt k 117 then (bif Nat.beq k 116 then 4 else 0) else (bif Nat.blt k 118 then (bif Nat.beq k 117 then 2 else 0) else (bif Nat.beq k 118 then 2 else 0))) else (bif Nat.blt k 120 then (bif Nat.beq k 119 then 3 else 0) else (bif Nat.blt k 121 then (bif Nat.beq k 120 then 1 else 0) else (bif Nat.beq k 121 then 2 else 0))))) else (bif Nat.blt k 128 then (bif Nat.blt k 125 then (bif Nat.blt k 123 then (bif Nat.beq k 122 then 1 else 0) else (bif Nat.blt k 124 then (bif Nat.beq k 123 then 1 else 0) else (bif Nat.beq k 124 then 1 else 0))) else (bif Nat.blt k 126 then (bif Nat.beq k 125 then 3 else 0) else (bif Nat.blt k 127 then (bif Nat.beq k 126 then 2 else 0) else (bif Nat.beq k 127 then 3 else 0)))) else (bif Nat.blt k 131 then (bif Nat.blt k 129 then (bif Nat.beq k 128 then 3 else 0) else (bif Nat.blt k 130 then (bif Nat.beq k 129 then 4 else 0) else (bif Nat.beq k 130 then 3 else 0))) else (bif Nat.blt k 132 then (bif Nat.beq k 131 then 5 else 0) else (bif Nat.blt k 133 then (bif Nat.beq k 132 then 2 else 0) else (bif Nat.beq k 133 then 4 else 0))))))) else (bif Nat.blt k 156 then (bif Nat.blt k 145 then (bif Nat.blt k 139 then (bif Nat.blt k 136 then (bif Nat.blt k 135 then (bif Nat.beq k 134 then 3 else 0) else (bif Nat.beq k 135 then 4 else 0)) else (bif Nat.blt k 137 then (bif Nat.beq k 136 then 2 else 0) else (bif Nat.blt k 138 then (bif Nat.beq k 137 then 5 else 0) else (bif Nat.beq k 138 then 4 else 0)))) else (bif Nat.blt k 142 then (bif Nat.blt k 140 then (bif Nat.beq k 139 then 2 else 0) else (bif Nat.blt k 141 then (bif Nat.beq k 140 then 7 else 0) else (bif Nat.beq k 141 then 3 else 0))) else (bif Nat.blt k 143 then (bif Nat.beq k 142 then 5 else 0) else (bif Nat.blt k 144 then (bif Nat.beq k 143 then 2 else 0) else (bif Nat.beq k 144 then 3 else 0))))) else (bif Nat.blt k 150 then (bif Nat.blt k 147 then (bif Nat.blt k 146 then (bif Nat.beq k 145 then 3 else 0) else (bif Nat.beq k 146 then 2 else 0)) else (bif Nat.blt k 148 then (bif Nat.beq k 147 then 3 else 0) else (bif Nat.blt k 149 then (bif Nat.beq k 148 then 1 else 0) else (bif Nat.beq k 149 then 1 else 0)))) else (bif Nat.blt k 153 then (bif Nat.blt k 151 then (bif Nat.beq k 150 then 2 else 0) else (bif Nat.blt k 152 then (bif Nat.beq k 151 then 4 else 0) else (bif Nat.beq k 152 then 6 else 0))) else (bif Nat.blt k 154 then (bif Nat.beq k 153 then 2 else 0) else (bif Nat.blt k 155 then (bif Nat.beq k 154 then 4 else 0) else (bif Nat.beq k 155 then 3 else 0)))))) else (bif Nat.blt k 167 then (bif Nat.blt k 161 then (bif Nat.blt k 158 then (bif Nat.blt k 157 then (bif Nat.beq k 156 then 2 else 0) else (bif Nat.beq k 157 then 3 else 0)) else (bif Nat.blt k 159 then (bif Nat.beq k 158 then 3 else 0) else (bif Nat.blt k 160 then (bif Nat.beq k 159 then 3 else 0) else (bif Nat.beq k 160 then 5 else 0)))) else (bif Nat.blt k 164 then (bif Nat.blt k 162 then (bif Nat.beq k 161 then 1 else 0) else (bif Nat.blt k 163 then (bif Nat.beq k 162 then 3 else 0) else (bif Nat.beq k 163 then 3 else 0))) else (bif Nat.blt k 165 then (bif Nat.beq k 164 then 1 else 0) else (bif Nat.blt k 166 then (bif Nat.beq k 165 then 2 else 0) else (bif Nat.beq k 166 then 1 else 0))))) else (bif Nat.blt k 173 then (bif Nat.blt k 170 then (bif Nat.blt k 168 then (bif Nat.beq k 167 then 4 else 0) else (bif Nat.blt k 169 then (bif Nat.beq k 168 then 1 else 0) else (bif Nat.beq k 169 then 2 else 0))) else (bif Nat.blt k 171 then (bif Nat.beq k 170 then 2 else 0) else (bif Nat.blt k 172 then (bif Nat.beq k 171 then 1 else 0) else (bif Nat.beq k 172 then 3 else 0)))) else (bif Nat.blt k 176 then (bif Nat.blt k 174 then (bif Nat.beq k 173 then 2 else 0) else (bif Nat.blt k 175 then (bif Nat.beq k 174 then 2 else 0) else (bif Nat.beq k 175 then 2 else 0))) else (bif Nat.blt k 177 then (bif Nat.beq k 176 then 3 else 0) else (bif Nat.blt k 178 then (bif Nat.beq k 177 then 3 else 0) else (bif Nat.beq k 178 then 3 else 0))))))))) else (bif Nat.blt k 269 then (bif Nat.blt k 224 then (bif Nat.blt k 201 then (bif Nat.blt k 190 then (bif Nat.blt k 184 then (bif Nat.blt k 181 then (bif Nat.blt k 180 then (bif Nat.beq k 179 then 2 else 0) else (bif Nat.beq k 180 then 2 else 0)) else (bif Nat.blt k 182 then (bif Nat.beq k 181 then 2 else 0) else (bif Nat.blt k 183 then (bif Nat.beq k 182 then 2 else 0) else (bif Nat.beq k 183 then 1 else 0)))) else (bif Nat.blt k 187 then (bif Nat.blt k 185 then (bif Nat.beq k 184 then 3 else 0) else (bif Nat.blt k 186 then (bif Nat.beq k 185 then 3 else 0) else (bif Nat.beq k 186 then 4 else 0))) else (bif Nat.blt k 188 then (bif Nat.beq k 187 then 3 else 0) else (bif Nat.blt k 189 then (bif Nat.beq k 188 then 3 else 0) else (bif Nat.beq k 189 then 2 else 0))))) else (bif Nat.blt k 195 then (bif Nat.blt k 192 then (bif Nat.blt k 191 then (bif Nat.beq k 190 then 4 else 0) else (bif Nat.beq k 191 then 3 else 0)) else (bif Nat.blt k 193 then (bif Nat.beq k 192 then 4 else 0) else (bif Nat.blt k 194 then (bif Nat.beq k 193 then 4 else 0) else (bif Nat.beq k 194 then 4 else 0)))) else (bif Nat.blt k 198 then (bif Nat.blt k 196 then (bif Nat.beq k 195 then 2 else 0) else (bif Nat.blt k 197 then (bif Nat.beq k 196 then 2 else 0) else (bif Nat.beq k 197 then 2 else 0))) else (bif Nat.blt k 199 then (bif Nat.beq k 198 then 6 else 0) else (bif Nat.blt k 200 then (bif Nat.beq k 199 then 4 else 0) else (bif Nat.beq k 200 then 3 else 0)))))) else (bif Nat.blt k 212 then (bif Nat.blt k 206 then (bif Nat.blt k 203 then (bif Nat.blt k 202 then (bif Nat.beq k 201 then 4 else 0) else (bif Nat.beq k 202 then 3 else 0)) else (bif Nat.blt k 204 then (bif Nat.beq k 203 then 3 else 0) else (bif Nat.blt k 205 then (bif Nat.beq k 204 then 1 else 0) else (bif Nat.beq k 205 then 2 else 0)))) else (bif Nat.blt k 209 then (bif Nat.blt k 207 then (bif Nat.beq k 206 then 2 else 0) else (bif Nat.blt k 208 then (bif Nat.beq k 207 then 4 else 0) else (bif Nat.beq k 208 then 3 else 0))) else (bif Nat.blt k 210 then (bif Nat.beq k 209 then 4 else 0) else (bif Nat.blt k 211 then (bif Nat.beq k 210 then 5 else 0) else (bif Nat.beq k 211 then 1 else 0))))) else (bif Nat.blt k 218 then (bif Nat.blt k 215 then (bif Nat.blt k 213 then (bif Nat.beq k 212 then 3 else 0) else (bif Nat.blt k 214 then (bif Nat.beq k 213 then 4 else 0) else (bif Nat.beq k 214 then 3 else 0))) else (bif Nat.blt k 216 then (bif Nat.beq k 215 then 4 else 0) else (bif Nat.blt k 217 then (bif Nat.beq k 216 then 2 else 0) else (bif Nat.beq k 217 then 5 else 0)))) else (bif Nat.blt k 221 then (bif Nat.blt k 219 then (bif Nat.beq k 218 then 2 else 0) else (bif Nat.blt k 220 then (bif Nat.beq k 219 then 3 else 0) else (bif Nat.beq k 220 then 1 else 0))) else (bif Nat.blt k 222 then (bif Nat.beq k 221 then 4 else 0) else (bif Nat.blt k 223 then (bif Nat.beq k 222 then 5 else 0) else (bif Nat.beq k 223 then 1 else 0))))))) else (bif Nat.blt k 246 then (bif Nat.blt k 235 then (bif Nat.blt k 229 then (bif Nat.blt k 226 then (bif Nat.blt k 225 then (bif Nat.beq k 224 then 2 else 0) else (bif Nat.beq k 225 then 3 else 0)) else (bif Nat.blt k 227 then (bif Nat.beq k 226 then 4 else 0) else (bif Nat.blt k 228 then (bif Nat.beq k 227 then 2 else 0) else (bif Nat.beq k 228 then 2 else 0)))) else (bif Nat.blt k 232 then (bif Nat.blt k 230 then (bif Nat.beq k 229 then 2 else 0) else (bif Nat.blt k 231 then (bif Nat.beq k 230 then 1 else 0) else (bif Nat.beq k 231 then 3 else 0))) else (bif Nat.blt k 233 then (bif Nat.beq k 232 then 2 else 0) else (bif Nat.blt k 234 then (bif Nat.beq k 233 then 3 else 0) else (bif Nat.beq k 234 then 2 else 0))))) else (bif Nat.blt k 240 then (bif Nat.blt k 237 then (bif Nat.blt k 236 then (bif Nat.beq k 235 then 2 else 0) else (bif Nat.beq k 236 then 5 else 0)) else (bif Nat.blt k 238 then (bif Nat.beq k 237 then 2 else 0) else (bif Nat.blt k 239 then (bif Nat.beq k 238 then 4 else 0) else (bif Nat.beq k 239 then 3 else 0)))) else (bif Nat.blt k 243 then (bif Nat.blt k 241 then (bif Nat.beq k 240 then 3 else 0) else (bif Nat.blt k 242 then (bif Nat.beq k 241 then 1 else 0) else (bif Nat.beq k 242 then 2 else 0))) else (bif Nat.blt k 244 then (bif Nat.beq k 243 then 4 else 0) else (bif Nat.blt k 245 then (bif Nat.beq k 244 then 4 else 0) else (bif Nat.beq k 245 then 3 else 0)))))) else (bif Nat.blt k 257 then (bif Nat.blt k 251 then (bif Nat.blt k 248 then (bif Nat.blt k 247 then (bif Nat.beq k 246 then 4 else 0) else (bif Nat.beq k 247 then 2 else 0)) else (bif Nat.blt k 249 then (bif Nat.beq k 248 then 3 else 0) else (bif Nat.blt k 250 then (bif Nat.beq k 249 then 5 else 0) else (bif Nat.beq k 250 then 6 else 0)))) else (bif Nat.blt k 254 then (bif Nat.blt k 252 then (bif Nat.beq k 251 then 5 else 0) else (bif Nat.blt k 253 then (bif Nat.beq k 252 then 4 else 0) else (bif Nat.beq k 253 then 4 else 0))) else (bif Nat.blt k 255 then (bif Nat.beq k 254 then 4 else 0) else (bif Nat.blt k 256 then (bif Nat.beq k 255 then 4 else 0) else (bif Nat.beq k 256 then 4 else 0))))) else (bif Nat.blt k 263 then (bif Nat.blt k 260 then (bif Nat.blt k 258 then (bif Nat.beq k 257 then 4 else 0) else (bif Nat.blt k 259 then (bif Nat.beq k 258 then 8 else 0) else (bif Nat.beq k 259 then 4 else 0))) else (bif Nat.blt k 261 then (bif Nat.beq k 260 then 4 else 0) else (bif Nat.blt k 262 then (bif Nat.beq k 261 then 4 else 0) else (bif Nat.beq k 262 then 4 else 0)))) else (bif Nat.blt k 266 then (bif Nat.blt k 264 then (bif Nat.beq k 263 then 4 else 0) else (bif Nat.blt k 265 then (bif Nat.beq k 264 then 5 else 0) else (bif Nat.beq k 265 then 5 else 0))) else (bif Nat.blt k 267 then (bif Nat.beq k 266 then 4 else 0) else (bif Nat.blt k 268 then (bif Nat.beq k 267 then 6 else 0) else (bif Nat.beq k 268 then 4 else 0)))))))) else (bif Nat.blt k 314 then (bif Nat.blt k 291 then (bif Nat.blt k 280 then (bif Nat.blt k 274 then (bif Nat.blt k 271 then (bif Nat.blt k 270 then (bif Nat.beq k 269 then 4 else 0) else (bif Nat.beq k 270 then 5 else 0)) else (bif Nat.blt k 272 then (bif Nat.beq k 271 then 4 else 0) else (bif Nat.blt k 273 then (bif Nat.beq k 272 then 5 else 0) else (bif Nat.beq k 273 then 4 else 0)))) else (bif Nat.blt k 277 then (bif Nat.blt k 275 then (bif Nat.beq k 274 then 4 else 0) else (bif Nat.blt k 276 then (bif Nat.beq k 275 then 5 else 0) else (bif Nat.beq k 276 then 4 else 0))) else (bif Nat.blt k 278 then (bif Nat.beq k 277 then 3 else 0) else (bif Nat.blt k 279 then (bif Nat.beq k 278 then 3 else 0) else (bif Nat.beq k 279 then 4 else 0))))) else (bif Nat.blt k 285 then (bif Nat.blt k 282 then (bif Nat.blt k 281 then (bif Nat.beq k 280 then 4 else 0) else (bif Nat.beq k 281 then 4 else 0)) else (bif Nat.blt k 283 then (bif Nat.beq k 282 then 5 else 0) else (bif Nat.blt k 284 then (bif Nat.beq k 283 then 4 else 0) else (bif Nat.beq k 284 then 2 else 0)))) else (bif Nat.blt k 288 then (bif Nat.blt k 286 then (bif Nat.beq k 285 then 3 else 0) else (bif Nat.blt k 287 then (bif Nat.beq k 286 then 3 else 0) else (bif Nat.beq k 287 then 2 else 0))) else (bif Nat.blt k 289 then (bif Nat.beq k 288 then 1 else 0) else (bif Nat.blt k 290 then (bif Nat.beq k 289 then 4 else 0) else (bif Nat.beq k 290 then 2 else 0)))))) else (bif Nat.blt k 302 then (bif Nat.blt k 296 then (bif Nat.blt k 293 then (bif Nat.blt k 292 then (bif Nat.beq k 291 then 5 else 0) else (bif Nat.beq k 292 then 1 else 0)) else (bif Nat.blt k 294 then (bif Nat.beq k 293 then 1 else 0) else (bif Nat.blt k 295 then (bif Nat.beq k 294 then 1 else 0) else (bif Nat.beq k 295 then 2 else 0)))) else (bif Nat.blt k 299 then (bif Nat.blt k 297 then (bif Nat.beq k 296 then 3 else 0) else (bif Nat.blt k 298 then (bif Nat.beq k 297 then 5 else 0) else (bif Nat.beq k 298 then 2 else 0))) else (bif Nat.blt k 300 then (bif Nat.beq k 299 then 3 else 0) else (bif Nat.blt k 301 then (bif Nat.beq k 300 then 3 else 0) else (bif Nat.beq k 301 then 2 else 0))))) else (bif Nat.blt k 308 then (bif Nat.blt k 305 then (bif Nat.blt k 303 then (bif Nat.beq k 302 then 2 else 0) else (bif Nat.blt k 304 then (bif Nat.beq k 303 then 6 else 0) else (bif Nat.beq k 304 then 7 else 0))) else (bif Nat.blt k 306 then (bif Nat.beq k 305 then 3 else 0) else (bif Nat.blt k 307 then (bif Nat.beq k 306 then 2 else 0) else (bif Nat.beq k 307 then 5 else 0)))) else (bif Nat.blt k 311 then (bif Nat.blt k 309 then (bif Nat.beq k 308 then 7 else 0) else (bif Nat.blt k 310 then (bif Nat.beq k 309 then 6 else 0) else (bif Nat.beq k 310 then 1 else 0))) else (bif Nat.blt k 312 then (bif Nat.beq k 311 then 1 else 0) else (bif Nat.blt k 313 then (bif Nat.beq k 312 then 1 else 0) else (bif Nat.beq k 313 then 3 else 0))))))) else (bif Nat.blt k 336 then (bif Nat.blt k 325 then (bif Nat.blt k 319 then (bif Nat.blt k 316 then (bif Nat.blt k 315 then (bif Nat.beq k 314 then 3 else 0) else (bif Nat.beq k 315 then 7 else 0)) else (bif Nat.blt k 317 then (bif Nat.beq k 316 then 4 else 0) else (bif Nat.blt k 318 then (bif Nat.beq k 317 then 4 else 0) else (bif Nat.beq k 318 then 3 else 0)))) else (bif Nat.blt k 322 then (bif Nat.blt k 320 then (bif Nat.beq k 319 then 2 else 0) else (bif Nat.blt k 321 then (bif Nat.beq k 320 then 2 else 0) else (bif Nat.beq k 321 then 2 else 0))) else (bif Nat.blt k 323 then (bif Nat.beq k 322 then 2 else 0) else (bif Nat.blt k 324 then (bif Nat.beq k 323 then 1 else 0) else (bif Nat.beq k 324 then 1 else 0))))) else (bif Nat.blt k 330 then (bif Nat.blt k 327 then (bif Nat.blt k 326 then (bif Nat.beq k 325 then 2 else 0) else (bif Nat.beq k 326 then 1 else 0)) else (bif Nat.blt k 328 then (bif Nat.beq k 327 then 3 else 0) else (bif Nat.blt k 329 then (bif Nat.beq k 328 then 2 else 0) else (bif Nat.beq k 329 then 4 else 0)))) else (bif Nat.blt k 333 then (bif Nat.blt k 331 then (bif Nat.beq k 330 then 3 else 0) else (bif Nat.blt k 332 then (bif Nat.beq k 331 then 5 else 0) else (bif Nat.beq k 332 then 3 else 0))) else (bif Nat.blt k 334 then (bif Nat.beq k 333 then 1 else 0) else (bif Nat.blt k 335 then (bif Nat.beq k 334 then 2 else 0) else (bif Nat.beq k 335 then 2 else 0)))))) else (bif Nat.blt k 347 then (bif Nat.blt k 341 then (bif Nat.blt k 338 then (bif Nat.blt k 337 then (bif Nat.beq k 336 then 2 else 0) else (bif Nat.beq k 337 then 1 else 0)) else (bif Nat.blt k 339 then (bif Nat.beq k 338 then 1 else 0) else (bif Nat.blt k 340 then (bif Nat.beq k 339 then 6 else 0) else (bif Nat.beq k 340 then 3 else 0)))) else (bif Nat.blt k 344 then (bif Nat.blt k 342 then (bif Nat.beq k 341 then 2 else 0) else (bif Nat.blt k 343 then (bif Nat.beq k 342 then 1 else 0) else (bif Nat.beq k 343 then 7 else 0))) else (bif Nat.blt k 345 then (bif Nat.beq k 344 then 4 else 0) else (bif Nat.blt k 346 then (bif Nat.beq k 345 then 2 else 0) else (bif Nat.beq k 346 then 5 else 0))))) else (bif Nat.blt k 353 then (bif Nat.blt k 350 then (bif Nat.blt k 348 then (bif Nat.beq k 347 then 3 else 0) else (bif Nat.blt k 349 then (bif Nat.beq k 348 then 3 else 0) else (bif Nat.beq k 349 then 5 else 0))) else (bif Nat.blt k 351 then (bif Nat.beq k 350 then 3 else 0) else (bif Nat.blt k 352 then (bif Nat.beq k 351 then 3 else 0) else (bif Nat.beq k 352 then 4 else 0)))) else (bif Nat.blt k 356 then (bif Nat.blt k 354 then (bif Nat.beq k 353 then 1 else 0) else (bif Nat.blt k 355 then (bif Nat.beq k 354 then 2 else 0) else (bif Nat.beq k 355 then 2 else 0))) else (bif Nat.blt k 357 then (bif Nat.beq k 356 then 2 else 0) else (bif Nat.blt k 358 then (bif Nat.beq k 357 then 2 else 0) else (bif Nat.beq k 358 then maxLocals else 0))))))))))
def mret (k : Nat) : Option FieldType := (bif Nat.blt k 179 then (bif Nat.blt k 89 then (bif Nat.blt k 44 then (bif Nat.blt k 22 then (bif Nat.blt k 11 then (bif Nat.blt k 5 then (bif Nat.blt k 2 then (bif Nat.blt k 1 then (bif Nat.beq k 0 then (none) else none) else (bif Nat.beq k 1 then (none) else none)) else (bif Nat.blt k 3 then (bif Nat.beq k 2 then (none) else none) else (bif Nat.blt k 4 then (bif Nat.beq k 3 then (none) else none) else (bif Nat.beq k 4 then (none) else none)))) else (bif Nat.blt k 8 then (bif Nat.blt k 6 then (bif Nat.beq k 5 then (Option.some Jvm.ClassFile.FieldType.int) else none) else (bif Nat.blt k 7 then (bif Nat.beq k 6 then (none) else none) else (bif Nat.beq k 7 then (none) else none))) else (bif Nat.blt k 9 then (bif Nat.beq k 8 then (none) else none) else (bif Nat.blt k 10 then (bif Nat.beq k 9 then (Option.some Jvm.ClassFile.FieldType.boolean) else none) else (bif Nat.beq k 10 then (Option.some Jvm.ClassFile.FieldType.boolean) else none))))) else (bif Nat.blt k 16 then (bif Nat.blt k 13 then (bif Nat.blt k 12 then (bif Nat.beq k 11 then (Option.some Jvm.ClassFile.FieldType.int) else none) else (bif Nat.beq k 12 then (none) else none)) else (bif Nat.blt k 14 then (bif Nat.beq k 13 then (none) else none) else (bif Nat.blt k 15 then (bif Nat.beq k 14 then (none) else none) else (bif Nat.beq k 15 then (Option.some Jvm.ClassFile.FieldType.int) else none)))) else (bif Nat.blt k 19 then (bif Nat.blt k 17 then (bif Nat.beq k 16 then (none) else none) else (bif Nat.blt k 18 then (bif Nat.beq k 17 then (none) else none) else (bif Nat.beq k 18 then (Option.some Jvm.ClassFile.FieldType.int) else none))) else (bif Nat.blt k 20 then (bif Nat.beq k 19 then (none) else none) else (bif Nat.blt k 21 then (bif Nat.beq k 20 then (none) else none) else (bif Nat.beq k 21 then (none) else none)))))) else (bif Nat.blt k 33 then (bif Nat.blt k 27 then (bif Nat.blt k 24 then (bif Nat.blt k 23 then (bif Nat.beq k 22 then (Option.some Jvm.ClassFile.FieldType.int) else none) else (bif Nat.beq k 23 then (none) else none)) else (bif Nat.blt k 25 then (bif Nat.beq k 24 then (none) else none) else (bif Nat.blt k 26 then (bif Nat.beq k 25 then (none) else none) else (bif Nat.beq k 26 then (none) else none)))) else (bif Nat.blt k 30 then (bif Nat.blt k 28 then (bif Nat.beq k 27 then (Option.some Jvm.ClassFile.FieldType.int) else none) else (bif Nat.blt k 29 then (bif Nat.beq k 28 then (none) else none) else (bif Nat.beq k 29 then (none) else none))) else (bif Nat.blt k 31 then (bif Nat.beq k 30 then (none) else none) else (bif Nat.blt k 32 then (bif Nat.beq k 31 then (Option.some Jvm.ClassFile.FieldType.int) else none) else (bif Nat.beq k 32 then (none) else none))))) else (bif Nat.blt k 38 then (bif Nat.blt k 35 then (bif Nat.blt k 34 then (bif Nat.beq k 33 then (none) else none) else (bif Nat.beq k 34 then (none) else none)) else (bif Nat.blt k 36 then (bif Nat.beq k 35 then (none) else none) else (bif Nat.blt k 37 then (bif Nat.beq k 36 then (Option.some Jvm.ClassFile.FieldType.boolean) else none) else (bif Nat.beq k 37 then (Option.some Jvm.ClassFile.FieldType.int) else none)))) else (bif Nat.blt k 41 then (bif Nat.blt k 39 then (bif Nat.beq k 38 then (none) else none) else (bif Nat.blt k 40 then (bif Nat.beq k 39 then (Option.some Jvm.ClassFile.FieldType.int) else none) else (bif Nat.beq k 40 then (none) else none))) else (bif Nat.blt k 42 then (bif Nat.beq k 41 then (none) else none) else (bif Nat.blt k 43 then (bif Nat.beq k 42 then (Option.some Jvm.ClassFile.FieldType.int) else none) else (bif Nat.beq k 43 then (none) else none))))))) else (bif Nat.blt k 66 then (bif Nat.blt k 55 then (bif Nat.blt k 49 then (bif Nat.blt k 46 then (bif Nat.blt k 45 then (bif Nat.beq k 44 then (none) else none) else (bif Nat.beq k 45 then (none) else none)) else (bif Nat.blt k 47 then (bif Nat.beq k 46 then (Option.some Jvm.ClassFile.FieldType.int) else none) else (bif Nat.blt k 48 then (bif Nat.beq k 47 then (Option.some Jvm.ClassFile.FieldType.int) else none) else (bif Nat.beq k 48 then (none) else none)))) else (bif Nat.blt k 52 then (bif Nat.blt k 50 then (bif Nat.beq k 49 then (none) else none) else (bif Nat.blt k 51 then (bif Nat.beq k 50 then (Option.some Jvm.ClassFile.FieldType.boolean) else none) else (bif Nat.beq k 51 then (Option.some Jvm.ClassFile.FieldType.boolean) else none))) else (bif Nat.blt k 53 then (bif Nat.beq k 52 then (Option.some Jvm.ClassFile.FieldType.int) else none) else (bif Nat.blt k 54 then (bif Nat.beq k 53 then (Option.some Jvm.ClassFile.FieldType.int) else none) else (bif Nat.beq k 54 then (Option.some Jvm.ClassFile.FieldType.int) else none))))) else (bif Nat.blt k 60 then (bif Nat.blt k 57 then (bif Nat.blt k 56 then (bif Nat.beq k 55 then (Option.some Jvm.ClassFile.FieldType.int) else none) else (bif Nat.beq k 56 then (Option.some Jvm.ClassFile.FieldType.int) else none)) else (bif Nat.blt k 58 then (bif Nat.beq k 57 then (Option.some Jvm.ClassFile.FieldType.boolean) else none) else (bif Nat.blt k 59 then (bif Nat.beq k 58 then (Option.some Jvm.ClassFile.FieldType.int) else none) else (bif Nat.beq k 59 then (Option.some Jvm.ClassFile.FieldType.int) else none)))) else (bif Nat.blt k 63 then (bif Nat.blt k 61 then (bif Nat.beq k 60 then (Option.some Jvm.ClassFile.FieldType.int) else none) else (bif Nat.blt k 62 then (bif Nat.beq k 61 then (Option.some Jvm.ClassFile.FieldType.int) else none) else (bif Nat.beq k 62 then (Option.some Jvm.ClassFile.FieldType.int) else none))) else (bif Nat.blt k 64 then (bif Nat.beq k 63 then (Option.some Jvm.ClassFile.FieldType.int) else none) else (bif Nat.blt k 65 then (bif Nat.beq k 64 then (Option.some Jvm.ClassFile.FieldType.int) else none) else (bif Nat.beq k 65 then (none) else none)))))) else (bif Nat.blt k 77 then (bif Nat.blt k 71 then (bif Nat.blt k 68 then (bif Nat.blt k 67 then (bif Nat.beq k 66 then (none) else none) else (bif Nat.beq k 67 then (Option.some Jvm.ClassFile.FieldType.int) else none)) else (bif Nat.blt k 69 then (bif Nat.beq k 68 then (Option.some Jvm.ClassFile.FieldType.int) else none) else (bif Nat.blt k 70 then (bif Nat.beq k 69 then (Option.some Jvm.ClassFile.FieldType.int) else none) else (bif Nat.beq k 70 then (Option.some Jvm.ClassFile.FieldType.int) else none)))) else (bif Nat.blt k 74 then (bif Nat.blt k 72 then (bif Nat.beq k 71 then (Option.some Jvm.ClassFile.FieldType.boolean) else none) else (bif Nat.blt k 73 then (bif Nat.beq k 72 then (none) else none) else (bif Nat.beq k 73 then (none) else none))) else (bif Nat.blt k 75 then (bif Nat.beq k 74 then (Option.some Jvm.ClassFile.FieldType.int) else none) else (bif Nat.blt k 76 then (bif Nat.beq k 75 then (Option.some Jvm.ClassFile.FieldType.int) else none) else (bif Nat.beq k 76 then (Option.some Jvm.ClassFile.FieldType.int) else none))))) else (bif Nat.blt k 83 then (bif Nat.blt k 80 then (bif Nat.blt k 78 then (bif Nat.beq k 77 then (none) else none) else (bif Nat.blt k 79 then (bif Nat.beq k 78 then (Option.some Jvm.ClassFile.FieldType.int) else none) else (bif Nat.beq k 79 then (Option.some Jvm.ClassFile.FieldType.int) else none))) else (bif Nat.blt k 81 then (bif Nat.beq k 80 then (Option.some Jvm.ClassFile.FieldType.int) else none) else (bif Nat.blt k 82 then (bif Nat.beq k 81 then (Option.some Jvm.ClassFile.FieldType.int) else none) else (bif Nat.beq k 82 then (Option.some Jvm.ClassFile.FieldType.int) else none)))) else (bif Nat.blt k 86 then (bif Nat.blt k 84 then (bif Nat.beq k 83 then (Option.some Jvm.ClassFile.FieldType.int) else none) else (bif Nat.blt k 85 then (bif Nat.beq k 84 then (Option.some Jvm.ClassFile.FieldType.int) else none) else (bif Nat.beq k 85 then (Option.some Jvm.ClassFile.FieldType.int) else none))) else (bif Nat.blt k 87 then (bif Nat.beq k 86 then (Option.some Jvm.ClassFile.FieldType.int) else none) else (bif Nat.blt k 88 then (bif Nat.beq k 87 then (Option.some Jvm.ClassFile.FieldType.int) else none) else (bif Nat.beq k 88 then (Option.some Jvm.ClassFile.FieldType.int) else none)))))))) else (bif Nat.blt k 134 then (bif Nat.blt k 111 then (bif Nat.blt k 100 then (bif Nat.blt k 94 then (bif Nat.blt k 91 then (bif Nat.blt k 90 then (bif Nat.beq k 89 then (Option.some Jvm.ClassFile.FieldType.int) else none) else (bif Nat.beq k 90 then (Option.some Jvm.ClassFile.FieldType.int) else none)) else (bif Nat.blt k 92 then (bif Nat.beq k 91 then (Option.some Jvm.ClassFile.FieldType.int) else none) else (bif Nat.blt k 93 then (bif Nat.beq k 92 then (Option.some Jvm.ClassFile.FieldType.float) else none) else (bif Nat.beq k 93 then (Option.some Jvm.ClassFile.FieldType.int) else none)))) else (bif Nat.blt k 97 then (bif Nat.blt k 95 then (bif Nat.beq k 94 then (Option.some Jvm.ClassFile.FieldType.int) else none) else (bif Nat.blt k 96 then (bif Nat.beq k 95 then (none) else none) else (bif Nat.beq k 96 then (Option.some Jvm.ClassFile.FieldType.int) else none))) else (bif Nat.blt k 98 then (bif Nat.beq k 97 then (Option.some Jvm.ClassFile.FieldType.int) else none) else (bif Nat.blt k 99 then (bif Nat.beq k 98 then (Option.some Jvm.ClassFile.FieldType.int) else none) else (bif Nat.beq k 99 then (Option.some Jvm.ClassFile.FieldType.int) else none))))) else (bif Nat.blt k 105 then (bif Nat.blt k 102 then (bif Nat.blt k 101 then (bif Nat.beq k 100 then (Option.some Jvm.ClassFile.FieldType.int) else none) else (bif Nat.beq k 101 then (Option.some Jvm.ClassFile.FieldType.int) else none)) else (bif Nat.blt k 103 then (bif Nat.beq k 102 then (Option.some Jvm.ClassFile.FieldType.int) else none) else (bif Nat.blt k 104 then (bif Nat.beq k 103 then (none) else none) else (bif Nat.beq k 104 then (Option.some Jvm.ClassFile.FieldType.int) else none)))) else (bif Nat.blt k 108 then (bif Nat.blt k 106 then (bif Nat.beq k 105 then (Option.some Jvm.ClassFile.FieldType.int) else none) else (bif Nat.blt k 107 then (bif Nat.beq k 106 then (none) else none) else (bif Nat.beq k 107 then (none) else none))) else (bif Nat.blt k 109 then (bif Nat.beq k 108 then (none) else none) else (bif Nat.blt k 110 then (bif Nat.beq k 109 then (none) else none) else (bif Nat.beq k 110 then (none) else none)))))) else (bif Nat.blt k 122 then (bif Nat.blt k 116 then (bif Nat.blt k 113 then (bif Nat.blt k 112 then (bif Nat.beq k 111 then (none) else none) else (bif Nat.beq k 112 then (Option.some Jvm.ClassFile.FieldType.int) else none)) else (bif Nat.blt k 114 then (bif Nat.beq k 113 then (Option.some Jvm.ClassFile.FieldType.int) else none) else (bif Nat.blt k 115 then (bif Nat.beq k 114 then (Option.some Jvm.ClassFile.FieldType.int) else none) else (bif Nat.beq k 115 then (Option.some Jvm.ClassFile.FieldType.int) else none)))) else (bif Nat.blt k 119 then (bif Nat.blt k 117 then (bif Nat.beq k 116 then (Option.some Jvm.ClassFile.FieldType.int) else none) else (bif Nat.blt k 118 then (bif Nat.beq k 117 then (Option.some Jvm.ClassFile.FieldType.int) else none) else (bif Nat.beq k 118 then (Option.some Jvm.ClassFile.FieldType.int) else none))) else (bif Nat.blt k 120 then (bif Nat.beq k 119 then (Option.some Jvm.ClassFile.FieldType.int) else none) else (bif Nat.blt k 121 then (bif Nat.beq k 120 then (Option.some (Jvm.ClassFile.FieldType.object "java/lang/String")) else none) else (bif Nat.beq k 121 then (Option.some Jvm.ClassFile.FieldType.int) else none))))) else (bif Nat.blt k 128 then (bif Nat.blt k 125 then (bif Nat.blt k 123 then (bif Nat.beq k 122 then (Option.some Jvm.ClassFile.FieldType.int) else none) else (bif Nat.blt k 124 then (bif Nat.beq k 123 then (Option.some Jvm.ClassFile.FieldType.int) else none) else (bif Nat.beq k 124 then (Option.some Jvm.ClassFile.FieldType.int) else none))) else (bif Nat.blt k 126 then (bif Nat.beq k 125 then (Option.some Jvm.ClassFile.FieldType.int) else none) else (bif Nat.blt k 127 then (bif Nat.beq k 126 then (Option.some Jvm.ClassFile.FieldType.int) else none) else (bif Nat.beq k 127 then (Option.some Jvm.ClassFile.FieldType.int) else none)))) else (bif Nat.blt k 131 then (bif Nat.blt k 129 then (bif Nat.beq k 128 then (Option.some Jvm.ClassFile.FieldType.int) else none) else (bif Nat.blt k 130 then (bif Nat.beq k 129 then (Option.some Jvm.ClassFile.FieldType.double) else none) else (bif Nat.beq k 130 then (Option.some Jvm.ClassFile.FieldType.int) else none))) else (bif Nat.blt k 132 then (bif Nat.beq k 131 then (none) else none) else (bif Nat.blt k 133 then (bif Nat.beq k 132 then (Option.some Jvm.ClassFile.FieldType.int) else none) else (bif Nat.beq k 133 then (Option.some Jvm.ClassFile.FieldType.int) else none))))))) else (bif Nat.blt k 156 then (bif Nat.blt k 145 then (bif Nat.blt k 139 then (bif Nat.blt k 136 then (bif Nat.blt k 135 then (bif Nat.beq k 134 then (Option.some Jvm.ClassFile.FieldType.int) else none) else (bif Nat.beq k 135 then (Option.some Jvm.ClassFile.FieldType.int) else none)) else (bif Nat.blt k 137 then (bif Nat.beq k 136 then (Option.some Jvm.ClassFile.FieldType.int) else none) else (bif Nat.blt k 138 then (bif Nat.beq k 137 then (none) else none) else (bif Nat.beq k 138 then (Option.some Jvm.ClassFile.FieldType.int) else none)))) else (bif Nat.blt k 142 then (bif Nat.blt k 140 then (bif Nat.beq k 139 then (Option.some Jvm.ClassFile.FieldType.int) else none) else (bif Nat.blt k 141 then (bif Nat.beq k 140 then (Option.some Jvm.ClassFile.FieldType.int) else none) else (bif Nat.beq k 141 then (none) else none))) else (bif Nat.blt k 143 then (bif Nat.beq k 142 then (none) else none) else (bif Nat.blt k 144 then (bif Nat.beq k 143 then (Option.some Jvm.ClassFile.FieldType.int) else none) else (bif Nat.beq k 144 then (none) else none))))) else (bif Nat.blt k 150 then (bif Nat.blt k 147 then (bif Nat.blt k 146 then (bif Nat.beq k 145 then (Option.some Jvm.ClassFile.FieldType.int) else none) else (bif Nat.beq k 146 then (none) else none)) else (bif Nat.blt k 148 then (bif Nat.beq k 147 then (Option.some Jvm.ClassFile.FieldType.int) else none) else (bif Nat.blt k 149 then (bif Nat.beq k 148 then (Option.some Jvm.ClassFile.FieldType.int) else none) else (bif Nat.beq k 149 then (Option.some Jvm.ClassFile.FieldType.int) else none)))) else (bif Nat.blt k 153 then (bif Nat.blt k 151 then (bif Nat.beq k 150 then (none) else none) else (bif Nat.blt k 152 then (bif Nat.beq k 151 then (Option.some Jvm.ClassFile.FieldType.int) else none) else (bif Nat.beq k 152 then (Option.some Jvm.ClassFile.FieldType.int) else none))) else (bif Nat.blt k 154 then (bif Nat.beq k 153 then (none) else none) else (bif Nat.blt k 155 then (bif Nat.beq k 154 then (Option.some Jvm.ClassFile.FieldType.int) else none) else (bif Nat.beq k 155 then (Option.some Jvm.ClassFile.FieldType.float) else none)))))) else (bif Nat.blt k 167 then (bif Nat.blt k 161 then (bif Nat.blt k 158 then (bif Nat.blt k 157 then (bif Nat.beq k 156 then (Option.some Jvm.ClassFile.FieldType.int) else none) else (bif Nat.beq k 157 then (Option.some Jvm.ClassFile.FieldType.int) else none)) else (bif Nat.blt k 159 then (bif Nat.beq k 158 then (none) else none) else (bif Nat.blt k 160 then (bif Nat.beq k 159 then (Option.some Jvm.ClassFile.FieldType.int) else none) else (bif Nat.beq k 160 then (Option.some Jvm.ClassFile.FieldType.int) else none)))) else (bif Nat.blt k 164 then (bif Nat.blt k 162 then (bif Nat.beq k 161 then (none) else none) else (bif Nat.blt k 163 then (bif Nat.beq k 162 then (Option.some Jvm.ClassFile.FieldType.int) else none) else (bif Nat.beq k 163 then (Option.some Jvm.ClassFile.FieldType.boolean) else none))) else (bif Nat.blt k 165 then (bif Nat.beq k 164 then (none) else none) else (bif Nat.blt k 166 then (bif Nat.beq k 165 then (Option.some Jvm.ClassFile.FieldType.boolean) else none) else (bif Nat.beq k 166 then (Option.some Jvm.ClassFile.FieldType.boolean) else none))))) else (bif Nat.blt k 173 then (bif Nat.blt k 170 then (bif Nat.blt k 168 then (bif Nat.beq k 167 then (Option.some Jvm.ClassFile.FieldType.boolean) else none) else (bif Nat.blt k 169 then (bif Nat.beq k 168 then (Option.some Jvm.ClassFile.FieldType.boolean) else none) else (bif Nat.beq k 169 then (Option.some Jvm.ClassFile.FieldType.boolean) else none))) else (bif Nat.blt k 171 then (bif Nat.beq k 170 then (Option.some Jvm.ClassFile.FieldType.boolean) else none) else (bif Nat.blt k 172 then (bif Nat.beq k 171 then (Option.some Jvm.ClassFile.FieldType.boolean) else none) else (bif Nat.beq k 172 then (Option.some Jvm.ClassFile.FieldType.boolean) else none)))) else (bif Nat.blt k 176 then (bif Nat.blt k 174 then (bif Nat.beq k 173 then (Option.some Jvm.ClassFile.FieldType.boolean) else none) else (bif Nat.blt k 175 then (bif Nat.beq k 174 then (Option.some Jvm.ClassFile.FieldType.boolean) else none) else (bif Nat.beq k 175 then (Option.some Jvm.ClassFile.FieldType.boolean) else none))) else (bif Nat.blt k 177 then (bif Nat.beq k 176 then (none) else none) else (bif Nat.blt k 178 then (bif Nat.beq k 177 then (none) else none) else (bif Nat.beq k 178 then (Option.some Jvm.ClassFile.FieldType.int) else none))))))))) else (bif Nat.blt k 269 then (bif Nat.blt k 224 then (bif Nat.blt k 201 then (bif Nat.blt k 190 then (bif Nat.blt k 184 then (bif Nat.blt k 181 then (bif Nat.blt k 180 then (bif Nat.beq k 179 then (Option.some Jvm.ClassFile.FieldType.int) else none) else (bif Nat.beq k 180 then (Option.some Jvm.ClassFile.FieldType.int) else none)) else (bif Nat.blt k 182 then (bif Nat.beq k 181 then (Option.some Jvm.ClassFile.FieldType.int) else none) else (bif Nat.blt k 183 then (bif Nat.beq k 182 then (Option.some Jvm.ClassFile.FieldType.int) else none) else (bif Nat.beq k 183 then (Option.some Jvm.ClassFile.FieldType.int) else none)))) else (bif Nat.blt k 187 then (bif Nat.blt k 185 then (bif Nat.beq k 184 then (Option.some Jvm.ClassFile.FieldType.int) else none) else (bif Nat.blt k 186 then (bif Nat.beq k 185 then (Option.some Jvm.ClassFile.FieldType.int) else none) else (bif Nat.beq k 186 then (Option.some Jvm.ClassFile.FieldType.int) else none))) else (bif Nat.blt k 188 then (bif Nat.beq k 187 then (Option.some Jvm.ClassFile.FieldType.int) else none) else (bif Nat.blt k 189 then (bif Nat.beq k 188 then (none) else none) else (bif Nat.beq k 189 then (Option.some Jvm.ClassFile.FieldType.int) else none))))) else (bif Nat.blt k 195 then (bif Nat.blt k 192 then (bif Nat.blt k 191 then (bif Nat.beq k 190 then (Option.some Jvm.ClassFile.FieldType.int) else none) else (bif Nat.beq k 191 then (Option.some Jvm.ClassFile.FieldType.int) else none)) else (bif Nat.blt k 193 then (bif Nat.beq k 192 then (none) else none) else (bif Nat.blt k 194 then (bif Nat.beq k 193 then (none) else none) else (bif Nat.beq k 194 then (Option.some Jvm.ClassFile.FieldType.int) else none)))) else (bif Nat.blt k 198 then (bif Nat.blt k 196 then (bif Nat.beq k 195 then (none) else none) else (bif Nat.blt k 197 then (bif Nat.beq k 196 then (none) else none) else (bif Nat.beq k 197 then (none) else none))) else (bif Nat.blt k 199 then (bif Nat.beq k 198 then (none) else none) else (bif Nat.blt k 200 then (bif Nat.beq k 199 then (none) else none) else (bif Nat.beq k 200 then (none) else none)))))) else (bif Nat.blt k 212 then (bif Nat.blt k 206 then (bif Nat.blt k 203 then (bif Nat.blt k 202 then (bif Nat.beq k 201 then (none) else none) else (bif Nat.beq k 202 then (none) else none)) else (bif Nat.blt k 204 then (bif Nat.beq k 203 then (none) else none) else (bif Nat.blt k 205 then (bif Nat.beq k 204 then (none) else none) else (bif Nat.beq k 205 then (Option.some Jvm.ClassFile.FieldType.int) else none)))) else (bif Nat.blt k 209 then (bif Nat.blt k 207 then (bif Nat.beq k 206 then (none) else none) else (bif Nat.blt k 208 then (bif Nat.beq k 207 then (Option.some Jvm.ClassFile.FieldType.int) else none) else (bif Nat.beq k 208 then (Option.some Jvm.ClassFile.FieldType.int) else none))) else (bif Nat.blt k 210 then (bif Nat.beq k 209 then (none) else none) else (bif Nat.blt k 211 then (bif Nat.beq k 210 then (none) else none) else (bif Nat.beq k 211 then (Option.some Jvm.ClassFile.FieldType.int) else none))))) else (bif Nat.blt k 218 then (bif Nat.blt k 215 then (bif Nat.blt k 213 then (bif Nat.beq k 212 then (Option.some Jvm.ClassFile.FieldType.int) else none) else (bif Nat.blt k 214 then (bif Nat.beq k 213 then (Option.some Jvm.ClassFile.FieldType.int) else none) else (bif Nat.beq k 214 then (Option.some Jvm.ClassFile.FieldType.int) else none))) else (bif Nat.blt k 216 then (bif Nat.beq k 215 then (Option.some Jvm.ClassFile.FieldType.int) else none) else (bif Nat.blt k 217 then (bif Nat.beq k 216 then (Option.some Jvm.ClassFile.FieldType.int) else none) else (bif Nat.beq k 217 then (Option.some Jvm.ClassFile.FieldType.int) else none)))) else (bif Nat.blt k 221 then (bif Nat.blt k 219 then (bif Nat.beq k 218 then (Option.some Jvm.ClassFile.FieldType.int) else none) else (bif Nat.blt k 220 then (bif Nat.beq k 219 then (Option.some Jvm.ClassFile.FieldType.int) else none) else (bif Nat.beq k 220 then (Option.some Jvm.ClassFile.FieldType.int) else none))) else (bif Nat.blt k 222 then (bif Nat.beq k 221 then (Option.some Jvm.ClassFile.FieldType.int) else none) else (bif Nat.blt k 223 then (bif Nat.beq k 222 then (Option.some Jvm.ClassFile.FieldType.int) else none) else (bif Nat.beq k 223 then (Option.some Jvm.ClassFile.FieldType.int) else none))))))) else (bif Nat.blt k 246 then (bif Nat.blt k 235 then (bif Nat.blt k 229 then (bif Nat.blt k 226 then (bif Nat.blt k 225 then (bif Nat.beq k 224 then (Option.some Jvm.ClassFile.FieldType.int) else none) else (bif Nat.beq k 225 then (Option.some Jvm.ClassFile.FieldType.int) else none)) else (bif Nat.blt k 227 then (bif Nat.beq k 226 then (none) else none) else (bif Nat.blt k 228 then (bif Nat.beq k 227 then (Option.some Jvm.ClassFile.FieldType.int) else none) else (bif Nat.beq k 228 then (Option.some Jvm.ClassFile.FieldType.int) else none)))) else (bif Nat.blt k 232 then (bif Nat.blt k 230 then (bif Nat.beq k 229 then (Option.some Jvm.ClassFile.FieldType.int) else none) else (bif Nat.blt k 231 then (bif Nat.beq k 230 then (Option.some Jvm.ClassFile.FieldType.int) else none) else (bif Nat.beq k 231 then (none) else none))) else (bif Nat.blt k 233 then (bif Nat.beq k 232 then (Option.some Jvm.ClassFile.FieldType.int) else none) else (bif Nat.blt k 234 then (bif Nat.beq k 233 then (Option.some Jvm.ClassFile.FieldType.int) else none) else (bif Nat.beq k 234 then (Option.some Jvm.ClassFile.FieldType.int) else none))))) else (bif Nat.blt k 240 then (bif Nat.blt k 237 then (bif Nat.blt k 236 then (bif Nat.beq k 235 then (Option.some Jvm.ClassFile.FieldType.int) else none) else (bif Nat.beq k 236 then (Option.some Jvm.ClassFile.FieldType.int) else none)) else (bif Nat.blt k 238 then (bif Nat.beq k 237 then (Option.some Jvm.ClassFile.FieldType.int) else none) else (bif Nat.blt k 239 then (bif Nat.beq k 238 then (none) else none) else (bif Nat.beq k 239 then (Option.some Jvm.ClassFile.FieldType.int) else none)))) else (bif Nat.blt k 243 then (bif Nat.blt k 241 then (bif Nat.beq k 240 then (Option.some Jvm.ClassFile.FieldType.int) else none) else (bif Nat.blt k 242 then (bif Nat.beq k 241 then (Option.some Jvm.ClassFile.FieldType.int) else none) else (bif Nat.beq k 242 then (Option.some Jvm.ClassFile.FieldType.int) else none))) else (bif Nat.blt k 244 then (bif Nat.beq k 243 then (Option.some Jvm.ClassFile.FieldType.double) else none) else (bif Nat.blt k 245 then (bif Nat.beq k 244 then (Option.some Jvm.ClassFile.FieldType.int) else none) else (bif Nat.beq k 245 then (Option.some Jvm.ClassFile.FieldType.int) else none)))))) else (bif Nat.blt k 257 then (bif Nat.blt k 251 then (bif Nat.blt k 248 then (bif Nat.blt k 247 then (bif Nat.beq k 246 then (Option.some Jvm.ClassFile.FieldType.int) else none) else (bif Nat.beq k 247 then (none) else none)) else (bif Nat.blt k 249 then (bif Nat.beq k 248 then (none) else none) else (bif Nat.blt k 250 then (bif Nat.beq k 249 then (none) else none) else (bif Nat.beq k 250 then (Option.some Jvm.ClassFile.FieldType.int) else none)))) else (bif Nat.blt k 254 then (bif Nat.blt k 252 then (bif Nat.beq k 251 then (Option.some Jvm.ClassFile.FieldType.int) else none) else (bif Nat.blt k 253 then (bif Nat.beq k 252 then (Option.some Jvm.ClassFile.FieldType.int) else none) else (bif Nat.beq k 253 then (Option.some Jvm.ClassFile.FieldType.int) else none))) else (bif Nat.blt k 255 then (bif Nat.beq k 254 then (Option.some Jvm.ClassFile.FieldType.int) else none) else (bif Nat.blt k 256 then (bif Nat.beq k 255 then (Option.some Jvm.ClassFile.FieldType.int) else none) else (bif Nat.beq k 256 then (Option.some Jvm.ClassFile.FieldType.int) else none))))) else (bif Nat.blt k 263 then (bif Nat.blt k 260 then (bif Nat.blt k 258 then (bif Nat.beq k 257 then (Option.some Jvm.ClassFile.FieldType.int) else none) else (bif Nat.blt k 259 then (bif Nat.beq k 258 then (Option.some Jvm.ClassFile.FieldType.int) else none) else (bif Nat.beq k 259 then (Option.some Jvm.ClassFile.FieldType.int) else none))) else (bif Nat.blt k 261 then (bif Nat.beq k 260 then (Option.some Jvm.ClassFile.FieldType.int) else none) else (bif Nat.blt k 262 then (bif Nat.beq k 261 then (Option.some Jvm.ClassFile.FieldType.int) else none) else (bif Nat.beq k 262 then (Option.some Jvm.ClassFile.FieldType.int) else none)))) else (bif Nat.blt k 266 then (bif Nat.blt k 264 then (bif Nat.beq k 263 then (Option.some Jvm.ClassFile.FieldType.int) else none) else (bif Nat.blt k 265 then (bif Nat.beq k 264 then (Option.some Jvm.ClassFile.FieldType.int) else none) else (bif Nat.beq k 265 then (Option.some Jvm.ClassFile.FieldType.int) else none))) else (bif Nat.blt k 267 then (bif Nat.beq k 266 then (Option.some Jvm.ClassFile.FieldType.int) else none) else (bif Nat.blt k 268 then (bif Nat.beq k 267 then (Option.some Jvm.ClassFile.FieldType.int) else none) else (bif Nat.beq k 268 then (Option.some Jvm.ClassFile.FieldType.int) else none)))))))) else (bif Nat.blt k 314 then (bif Nat.blt k 291 then (bif Nat.blt k 280 then (bif Nat.blt k 274 then (bif Nat.blt k 271 then (bif Nat.blt k 270 then (bif Nat.beq k 269 then (Option.some Jvm.ClassFile.FieldType.int) else none) else (bif Nat.beq k 270 then (Option.some Jvm.ClassFile.FieldType.int) else none)) else (bif Nat.blt k 272 then (bif Nat.beq k 271 then (Option.some Jvm.ClassFile.FieldType.int) else none) else (bif Nat.blt k 273 then (bif Nat.beq k 272 then (Option.some Jvm.ClassFile.FieldType.int) else none) else (bif Nat.beq k 273 then (Option.some Jvm.ClassFile.FieldType.int) else none)))) else (bif Nat.blt k 277 then (bif Nat.blt k 275 then (bif Nat.beq k 274 then (Option.some Jvm.ClassFile.FieldType.int) else none) else (bif Nat.blt k 276 then (bif Nat.beq k 275 then (Option.some Jvm.ClassFile.FieldType.int) else none) else (bif Nat.beq k 276 then (Option.some Jvm.ClassFile.FieldType.int) else none))) else (bif Nat.blt k 278 then (bif Nat.beq k 277 then (Option.some Jvm.ClassFile.FieldType.int) else none) else (bif Nat.blt k 279 then (bif Nat.beq k 278 then (Option.some Jvm.ClassFile.FieldType.int) else none) else (bif Nat.beq k 279 then (Option.some Jvm.ClassFile.FieldType.int) else none))))) else (bif Nat.blt k 285 then (bif Nat.blt k 282 then (bif Nat.blt k 281 then (bif Nat.beq k 280 then (Option.some Jvm.ClassFile.FieldType.int) else none) else (bif Nat.beq k 281 then (Option.some Jvm.ClassFile.FieldType.int) else none)) else (bif Nat.blt k 283 then (bif Nat.beq k 282 then (Option.some Jvm.ClassFile.FieldType.int) else none) else (bif Nat.blt k 284 then (bif Nat.beq k 283 then (Option.some Jvm.ClassFile.FieldType.int) else none) else (bif Nat.beq k 284 then (Option.some Jvm.ClassFile.FieldType.char) else none)))) else (bif Nat.blt k 288 then (bif Nat.blt k 286 then (bif Nat.beq k 285 then (none) else none) else (bif Nat.blt k 287 then (bif Nat.beq k 286 then (Option.some Jvm.ClassFile.FieldType.int) else none) else (bif Nat.beq k 287 then (none) else none))) else (bif Nat.blt k 289 then (bif Nat.beq k 288 then (Option.some Jvm.ClassFile.FieldType.byte) else none) else (bif Nat.blt k 290 then (bif Nat.beq k 289 then (none) else none) else (bif Nat.beq k 290 then (none) else none)))))) else (bif Nat.blt k 302 then (bif Nat.blt k 296 then (bif Nat.blt k 293 then (bif Nat.blt k 292 then (bif Nat.beq k 291 then (none) else none) else (bif Nat.beq k 292 then (Option.some Jvm.ClassFile.FieldType.boolean) else none)) else (bif Nat.blt k 294 then (bif Nat.beq k 293 then (Option.some Jvm.ClassFile.FieldType.int) else none) else (bif Nat.blt k 295 then (bif Nat.beq k 294 then (Option.some Jvm.ClassFile.FieldType.boolean) else none) else (bif Nat.beq k 295 then (Option.some Jvm.ClassFile.FieldType.char) else none)))) else (bif Nat.blt k 299 then (bif Nat.blt k 297 then (bif Nat.beq k 296 then (none) else none) else (bif Nat.blt k 298 then (bif Nat.beq k 297 then (none) else none) else (bif Nat.beq k 298 then (Option.some Jvm.ClassFile.FieldType.char) else none))) else (bif Nat.blt k 300 then (bif Nat.beq k 299 then (none) else none) else (bif Nat.blt k 301 then (bif Nat.beq k 300 then (none) else none) else (bif Nat.beq k 301 then (none) else none))))) else (bif Nat.blt k 308 then (bif Nat.blt k 305 then (bif Nat.blt k 303 then (bif Nat.beq k 302 then (Option.some Jvm.ClassFile.FieldType.byte) else none) else (bif Nat.blt k 304 then (bif Nat.beq k 303 then (Option.some (Jvm.ClassFile.FieldType.array Jvm.ClassFile.FieldType.byte)) else none) else (bif Nat.beq k 304 then (Option.some Jvm.ClassFile.FieldType.int) else none))) else (bif Nat.blt k 306 then (bif Nat.beq k 305 then (none) else none) else (bif Nat.blt k 307 then (bif Nat.beq k 306 then (Option.some Jvm.ClassFile.FieldType.char) else none) else (bif Nat.beq k 307 then (Option.some Jvm.ClassFile.FieldType.int) else none)))) else (bif Nat.blt k 311 then (bif Nat.blt k 309 then (bif Nat.beq k 308 then (Option.some Jvm.ClassFile.FieldType.int) else none) else (bif Nat.blt k 310 then (bif Nat.beq k 309 then (none) else none) else (bif Nat.beq k 310 then (Option.some Jvm.ClassFile.FieldType.int) else none))) else (bif Nat.blt k 312 then (bif Nat.beq k 311 then (Option.some (Jvm.ClassFile.FieldType.array Jvm.ClassFile.FieldType.byte)) else none) else (bif Nat.blt k 313 then (bif Nat.beq k 312 then (Option.some Jvm.ClassFile.FieldType.int) else none) else (bif Nat.beq k 313 then (none) else none))))))) else (bif Nat.blt k 336 then (bif Nat.blt k 325 then (bif Nat.blt k 319 then (bif Nat.blt k 316 then (bif Nat.blt k 315 then (bif Nat.beq k 314 then (none) else none) else (bif Nat.beq k 315 then (Option.some Jvm.ClassFile.FieldType.int) else none)) else (bif Nat.blt k 317 then (bif Nat.beq k 316 then (Option.some Jvm.ClassFile.FieldType.int) else none) else (bif Nat.blt k 318 then (bif Nat.beq k 317 then (Option.some Jvm.ClassFile.FieldType.int) else none) else (bif Nat.beq k 318 then (Option.some Jvm.ClassFile.FieldType.int) else none)))) else (bif Nat.blt k 322 then (bif Nat.blt k 320 then (bif Nat.beq k 319 then (Option.some (Jvm.ClassFile.FieldType.object "java/lang/StringBuilder")) else none) else (bif Nat.blt k 321 then (bif Nat.beq k 320 then (Option.some (Jvm.ClassFile.FieldType.object "java/lang/StringBuilder")) else none) else (bif Nat.beq k 321 then (Option.some (Jvm.ClassFile.FieldType.object "java/lang/StringBuilder")) else none))) else (bif Nat.blt k 323 then (bif Nat.beq k 322 then (Option.some Jvm.ClassFile.FieldType.char) else none) else (bif Nat.blt k 324 then (bif Nat.beq k 323 then (none) else none) else (bif Nat.beq k 324 then (Option.some Jvm.ClassFile.FieldType.int) else none))))) else (bif Nat.blt k 330 then (bif Nat.blt k 327 then (bif Nat.blt k 326 then (bif Nat.beq k 325 then (none) else none) else (bif Nat.beq k 326 then (Option.some (Jvm.ClassFile.FieldType.object "java/lang/String")) else none)) else (bif Nat.blt k 328 then (bif Nat.beq k 327 then (Option.some (Jvm.ClassFile.FieldType.object "java/lang/AbstractStringBuilder")) else none) else (bif Nat.blt k 329 then (bif Nat.beq k 328 then (Option.some (Jvm.ClassFile.FieldType.object "java/lang/AbstractStringBuilder")) else none) else (bif Nat.beq k 329 then (Option.some (Jvm.ClassFile.FieldType.object "java/lang/AbstractStringBuilder")) else none)))) else (bif Nat.blt k 333 then (bif Nat.blt k 331 then (bif Nat.beq k 330 then (Option.some (Jvm.ClassFile.FieldType.object "java/lang/AbstractStringBuilder")) else none) else (bif Nat.blt k 332 then (bif Nat.beq k 331 then (Option.some Jvm.ClassFile.FieldType.char) else none) else (bif Nat.beq k 332 then (none) else none))) else (bif Nat.blt k 334 then (bif Nat.beq k 333 then (Option.some (Jvm.ClassFile.FieldType.array Jvm.ClassFile.FieldType.byte)) else none) else (bif Nat.blt k 335 then (bif Nat.beq k 334 then (none) else none) else (bif Nat.beq k 335 then (none) else none)))))) else (bif Nat.blt k 347 then (bif Nat.blt k 341 then (bif Nat.blt k 338 then (bif Nat.blt k 337 then (bif Nat.beq k 336 then (none) else none) else (bif Nat.beq k 337 then (Option.some Jvm.ClassFile.FieldType.boolean) else none)) else (bif Nat.blt k 339 then (bif Nat.beq k 338 then (Option.some Jvm.ClassFile.FieldType.int) else none) else (bif Nat.blt k 340 then (bif Nat.beq k 339 then (Option.some Jvm.ClassFile.FieldType.int) else none) else (bif Nat.beq k 340 then (none) else none)))) else (bif Nat.blt k 344 then (bif Nat.blt k 342 then (bif Nat.beq k 341 then (none) else none) else (bif Nat.blt k 343 then (bif Nat.beq k 342 then (Option.some Jvm.ClassFile.FieldType.int) else none) else (bif Nat.beq k 343 then (Option.some Jvm.ClassFile.FieldType.int) else none))) else (bif Nat.blt k 345 then (bif Nat.beq k 344 then (Option.some Jvm.ClassFile.FieldType.int) else none) else (bif Nat.blt k 346 then (bif Nat.beq k 345 then (none) else none) else (bif Nat.beq k 346 then (Option.some (Jvm.ClassFile.FieldType.array Jvm.ClassFile.FieldType.byte)) else none))))) else (bif Nat.blt k 353 then (bif Nat.blt k 350 then (bif Nat.blt k 348 then (bif Nat.beq k 347 then (Option.some (Jvm.ClassFile.FieldType.array Jvm.ClassFile.FieldType.byte)) else none) else (bif Nat.blt k 349 then (bif Nat.beq k 348 then (Option.some (Jvm.ClassFile.FieldType.array Jvm.ClassFile.FieldType.byte)) else none) else (bif Nat.beq k 349 then (none) else none))) else (bif Nat.blt k 351 then (bif Nat.beq k 350 then (none) else none) else (bif Nat.blt k 352 then (bif Nat.beq k 351 then (Option.some Jvm.ClassFile.FieldType.int) else none) else (bif Nat.beq k 352 then (Option.some Jvm.ClassFile.FieldType.int) else none)))) else (bif Nat.blt k 356 then (bif Nat.blt k 354 then (bif Nat.beq k 353 then (Option.some Jvm.ClassFile.FieldType.int) else none) else (bif Nat.blt k 355 then (bif Nat.beq k 354 then (Option.some Jvm.ClassFile.FieldType.int) else none) else (bif Nat.beq k 355 then (Option.some Jvm.ClassFile.FieldType.int) else none))) else (bif Nat.blt k 357 then (bif Nat.beq k 356 then (none) else none) else (bif Nat.blt k 358 then (bif Nat.beq k 357 then (none) else none) else (bif Nat.beq k 358 then ret else none))))))))))
def mini (k : Nat) : Bool := false
def mhh (k : Nat) : List (Nat × Nat × Nat × Nat) := (bif Nat.blt k 267 then (bif Nat.blt k 258 then (bif Nat.blt k 254 then (bif Nat.blt k 252 then (bif Nat.blt k 251 then (bif Nat.beq k 250 then [(0, 12, 15, 19), (0, 12, 19, 13)] else []) else (bif Nat.beq k 251 then [(0, 10, 13, 19), (0, 10, 17, 13)] else [])) else (bif Nat.blt k 253 then (bif Nat.beq k 252 then [(0, 9, 12, 34)] else []) else (bif Nat.beq k 253 then [(0, 9, 12, 34)] else []))) else (bif Nat.blt k 256 then (bif Nat.blt k 255 then (bif Nat.beq k 254 then [(0, 9, 12, 19)] else []) else (bif Nat.beq k 255 then [(0, 9, 12, 34)] else [])) else (bif Nat.blt k 257 then (bif Nat.beq k 256 then [(0, 9, 12, 34)] else []) else (bif Nat.beq k 257 then [(0, 9, 12, 34)] else [])))) else (bif Nat.blt k 262 then (bif Nat.blt k 260 then (bif Nat.blt k 259 then (bif Nat.beq k 258 then [(0, 16, 19, 13)] else []) else (bif Nat.beq k 259 then [(0, 9, 12, 34)] else [])) else (bif Nat.blt k 261 then (bif Nat.beq k 260 then [(0, 9, 12, 34)] else []) else (bif Nat.beq k 261 then [(0, 9, 12, 34)] else []))) else (bif Nat.blt k 264 then (bif Nat.blt k 263 then (bif Nat.beq k 262 then [(0, 9, 12, 34)] else []) else (bif Nat.beq k 263 then [(0, 9, 12, 19), (0, 9, 15, 13)] else [])) else (bif Nat.blt k 265 then (bif Nat.beq k 264 then [(0, 10, 13, 34), (0, 10, 17, 19)] else []) else (bif Nat.blt k 266 then (bif Nat.beq k 265 then [(0, 10, 13, 34)] else []) else (bif Nat.beq k 266 then [(0, 9, 12, 123)] else [])))))) else (bif Nat.blt k 275 then (bif Nat.blt k 271 then (bif Nat.blt k 269 then (bif Nat.blt k 268 then (bif Nat.beq k 267 then [(0, 12, 15, 34), (0, 12, 19, 19), (0, 12, 23, 13)] else []) else (bif Nat.beq k 268 then [(0, 9, 12, 19), (0, 9, 15, 13)] else [])) else (bif Nat.blt k 270 then (bif Nat.beq k 269 then [(0, 9, 12, 19), (0, 9, 15, 13)] else []) else (bif Nat.beq k 270 then [(0, 10, 13, 34), (0, 10, 17, 19)] else []))) else (bif Nat.blt k 273 then (bif Nat.blt k 272 then (bif Nat.beq k 271 then [(0, 9, 12, 19)] else []) else (bif Nat.beq k 272 then [(0, 10, 13, 19)] else [])) else (bif Nat.blt k 274 then (bif Nat.beq k 273 then [(0, 9, 12, 19)] else []) else (bif Nat.beq k 274 then [(0, 9, 12, 34), (0, 9, 15, 13)] else [])))) else (bif Nat.blt k 279 then (bif Nat.blt k 277 then (bif Nat.blt k 276 then (bif Nat.beq k 275 then [(0, 10, 13, 34), (0, 10, 17, 19)] else []) else (bif Nat.beq k 276 then [(0, 9, 12, 34)] else [])) else (bif Nat.blt k 278 then (bif Nat.beq k 277 then [(0, 8, 11, 13)] else []) else (bif Nat.beq k 278 then [(0, 8, 11, 13)] else []))) else (bif Nat.blt k 281 then (bif Nat.blt k 280 then (bif Nat.beq k 279 then [(0, 9, 12, 34), (0, 9, 15, 13)] else []) else (bif Nat.beq k 280 then [(0, 9, 12, 19)] else [])) else (bif Nat.blt k 282 then (bif Nat.beq k 281 then [(0, 9, 12, 19)] else []) else (bif Nat.blt k 283 then (bif Nat.beq k 282 then [(0, 10, 13, 34)] else []) else (bif Nat.beq k 283 then [(0, 9, 12, 34)] else [])))))))
end
section
def wA : List Cond := lw_tbl.filter goodWord
theorem wA_mem {n : Nat} {w : Cond} (h : wat n = some w) (g : goodWord w = true) : w ∈ wA := List.mem_filter.mpr ⟨wat_mem h, g⟩
def tyL (dA : Nat → ClassId) : List (ClassId × FieldType) := [(dA 0, .byte), (dA 1, .int), (dA 2, .boolean), (dA 3, .object "MuleTrain$Train"), (dA 4, .long), (dA 5, .double)]
def cwR (dA : Nat → ClassId) (z adR : Nat → Nat) (RO : List mE) : va_W := RO.mapIdx (fun j e => (adR j, czE dA z e))
abbrev mX : Type := Program × Launch × Env × Room × State × MethodId × Array Value × List Frame × Method × Code × (State → Prop) × (Nat → Prop) × (Nat → ClassId) × (Nat → Nat → Nat) × (Nat → ClassId) × (Nat → Nat) × List mE × Nat
def mkk (X : mX) : Nat := X.2.2.2.2.2.2.2.2.2.2.2.2.2.2.2.2.2
def mRO (X : mX) : List mE := X.2.2.2.2.2.2.2.2.2.2.2.2.2.2.2.2.1
/-- what holds all along a method's run -/
def mCx (X : mX) : Prop := match X with
  | (p, l, e, R, s, m, args, below, meth, c, Q, A, dC, dI, dA, adR, RO, k) =>
    p.tables.exec = Jvm.exec ∧ c.code = mby k ∧ c.maxLocals = mml k ∧ s.vm.findClass (mnm k).cls = some m.cls ∧ (∀ w ∈ wA, w.before args s = true) ∧ (∀ q, s.heap.size ≤ q → A q) ∧ va_K (dC, dI) vwCl (tyL dA) s ∧
    (∀ ad : Nat → Nat, va_P (dC, dI) vwCl (cwR dA (mz adR ad) adR RO) s.heap) ∧ (∀ j, j < RO.length → adR j < s.heap.size ∧ ¬ A (adR j)) ∧ meth.locks = false ∧ meth.sig.returnType = mret k ∧ 30 ≤ R.frames ∧ 300 ≤ R.locals ∧ (mini k = true → meth.name = "<init>")
/-- from here, with these locals, this stack, this world, the JVM comes to its goal -/
def mGo (X : mX) (cells slots : Nat) (ad : Nat → Nat) (L st : List Value) (W9 : List mE) (pc : Nat) : Prop := match X with
  | (p, l, e, R, s, m, args, below, meth, c, Q, A, dC, dI, dA, adR, RO, k) => ∀ (H : Heap) (locs : List Loc) (ls : Array Slot), va_P (dC, dI) vwCl (cw dA (mz adR ad) ad W9) H → va_D A (cw dA (mz adR ad) ad W9) → va_S A s.heap H locs → W9.length ≤ 1000000 → wW W9.length W9 → wv W9.length L → wv W9.length st → lz (mz adR ad) ls (mml k) L →
    W p l e R s m args below meth c H locs cells slots Q (F0 m pc ls (st.map (cz (mz adR ad))))
section OPS
variable {X : mX} {cells slots : Nat} {ad : Nat → Nat} {L r : List Value} {W9 : List mE} {pc : Nat}
theorem o_iadd (hX : mCx X) {x y : Int32} (hd : decode (mby (mkk X)) pc = .ok (.iadd, 1)) (kk : mGo X cells slots ad L (.int (x + y) :: r) W9 (pc + 1)) : mGo X cells slots ad L (.int y :: .int x :: r) W9 pc := by
  obtain ⟨p, l, e, R, s, m, args, below, meth, c, Q, A, dC, dI, dA, adR, RO, k⟩ := X
  obtain ⟨hx, hb, hml, hown, hwA, hA, hK, hRO, hROA, hlk, hrt, hfr, hlo, hini⟩ := hX
  have hwd : ∀ (n : Nat) (w : Cond), wat n = some w → goodWord w = true → w.before args s = true := fun n w h g => hwA w (wA_mem h g)
  intro H locs ls hP hD hS hn hw hL hs hl
  exact lv_iadd hx hb hd  (kk H locs ls hP hD hS hn hw hL (wv_int (wv_tail (wv_tail hs))) hl)
theorem o_isub (hX : mCx X) {x y : Int32} (hd : decode (mby (mkk X)) pc = .ok (.isub, 1)) (kk : mGo X cells slots ad L (.int (x - y) :: r) W9 (pc + 1)) : mGo X cells slots ad L (.int y :: .int x :: r) W9 pc := by
  obtain ⟨p, l, e, R, s, m, args, below, meth, c, Q, A, dC, dI, dA, adR, RO, k⟩ := X
  obtain ⟨hx, hb, hml, hown, hwA, hA, hK, hRO, hROA, hlk, hrt, hfr, hlo, hini⟩ := hX
  have hwd : ∀ (n : Nat) (w : Cond), wat n = some w → goodWord w = true → w.before args s = true := fun n w h g => hwA w (wA_mem h g)
  intro H locs ls hP hD hS hn hw hL hs hl
  exact lv_isub hx hb hd  (kk H locs ls hP hD hS hn hw hL (wv_int (wv_tail (wv_tail hs))) hl)
theorem o_imul (hX : mCx X) {x y : Int32} (hd : decode (mby (mkk X)) pc = .ok (.imul, 1)) (kk : mGo X cells slots ad L (.int (x * y) :: r) W9 (pc + 1)) : mGo X cells slots ad L (.int y :: .int x :: r) W9 pc := by
  obtain ⟨p, l, e, R, s, m, args, below, meth, c, Q, A, dC, dI, dA, adR, RO, k⟩ := X
  obtain ⟨hx, hb, hml, hown, hwA, hA, hK, hRO, hROA, hlk, hrt, hfr, hlo, hini⟩ := hX
  have hwd : ∀ (n : Nat) (w : Cond), wat n = some w → goodWord w = true → w.before args s = true := fun n w h g => hwA w (wA_mem h g)
  intro H locs ls hP hD hS hn hw hL hs hl
  exact lv_imul hx hb hd  (kk H locs ls hP hD hS hn hw hL (wv_int (wv_tail (wv_tail hs))) hl)
theorem o_iand (hX : mCx X) {x y : Int32} (hd : decode (mby (mkk X)) pc = .ok (.iand, 1)) (kk : mGo X cells slots ad L (.int (x &&& y) :: r) W9 (pc + 1)) : mGo X cells slots ad L (.int y :: .int x :: r) W9 pc := by
  obtain ⟨p, l, e, R, s, m, args, below, meth, c, Q, A, dC, dI, dA, adR, RO, k⟩ := X
  obtain ⟨hx, hb, hml, hown, hwA, hA, hK, hRO, hROA, hlk, hrt, hfr, hlo, hini⟩ := hX
  have hwd : ∀ (n : Nat) (w : Cond), wat n = some w → goodWord w = true → w.before args s = true := fun n w h g => hwA w (wA_mem h g)
  intro H locs ls hP hD hS hn hw hL hs hl
  exact lv_iand hx hb hd  (kk H locs ls hP hD hS hn hw hL (wv_int (wv_tail (wv_tail hs))) hl)
theorem o_ior (hX : mCx X) {x y : Int32} (hd : decode (mby (mkk X)) pc = .ok (.ior, 1)) (kk : mGo X cells slots ad L (.int (x ||| y) :: r) W9 (pc + 1)) : mGo X cells slots ad L (.int y :: .int x :: r) W9 pc := by
  obtain ⟨p, l, e, R, s, m, args, below, meth, c, Q, A, dC, dI, dA, adR, RO, k⟩ := X
  obtain ⟨hx, hb, hml, hown, hwA, hA, hK, hRO, hROA, hlk, hrt, hfr, hlo, hini⟩ := hX
  have hwd : ∀ (n : Nat) (w : Cond), wat n = some w → goodWord w = true → w.before args s = true := fun n w h g => hwA w (wA_mem h g)
  intro H locs ls hP hD hS hn hw hL hs hl
  exact lv_ior hx hb hd  (kk H locs ls hP hD hS hn hw hL (wv_int (wv_tail (wv_tail hs))) hl)
theorem o_ishl (hX : mCx X) {x y : Int32} (hd : decode (mby (mkk X)) pc = .ok (.ishl, 1)) (kk : mGo X cells slots ad L (.int (x <<< (y &&& 31)) :: r) W9 (pc + 1)) : mGo X cells slots ad L (.int y :: .int x :: r) W9 pc := by
  obtain ⟨p, l, e, R, s, m, args, below, meth, c, Q, A, dC, dI, dA, adR, RO, k⟩ := X
  obtain ⟨hx, hb, hml, hown, hwA, hA, hK, hRO, hROA, hlk, hrt, hfr, hlo, hini⟩ := hX
  have hwd : ∀ (n : Nat) (w : Cond), wat n = some w → goodWord w = true → w.before args s = true := fun n w h g => hwA w (wA_mem h g)
  intro H locs ls hP hD hS hn hw hL hs hl
  exact lv_ishl hx hb hd  (kk H locs ls hP hD hS hn hw hL (wv_int (wv_tail (wv_tail hs))) hl)
theorem o_ishr (hX : mCx X) {x y : Int32} (hd : decode (mby (mkk X)) pc = .ok (.ishr, 1)) (kk : mGo X cells slots ad L (.int (x >>> (y &&& 31)) :: r) W9 (pc + 1)) : mGo X cells slots ad L (.int y :: .int x :: r) W9 pc := by
  obtain ⟨p, l, e, R, s, m, args, below, meth, c, Q, A, dC, dI, dA, adR, RO, k⟩ := X
  obtain ⟨hx, hb, hml, hown, hwA, hA, hK, hRO, hROA, hlk, hrt, hfr, hlo, hini⟩ := hX
  have hwd : ∀ (n : Nat) (w : Cond), wat n = some w → goodWord w = true → w.before args s = true := fun n w h g => hwA w (wA_mem h g)
  intro H locs ls hP hD hS hn hw hL hs hl
  exact lv_ishr hx hb hd  (kk H locs ls hP hD hS hn hw hL (wv_int (wv_tail (wv_tail hs))) hl)
theorem o_iushr (hX : mCx X) {x y : Int32} (hd : decode (mby (mkk X)) pc = .ok (.iushr, 1)) (kk : mGo X cells slots ad L (.int (x.toUInt32 >>> (y.toUInt32 &&& Int32.toUInt32 31)).toInt32 :: r) W9 (pc + 1)) : mGo X cells slots ad L (.int y :: .int x :: r) W9 pc := by
  obtain ⟨p, l, e, R, s, m, args, below, meth, c, Q, A, dC, dI, dA, adR, RO, k⟩ := X
  obtain ⟨hx, hb, hml, hown, hwA, hA, hK, hRO, hROA, hlk, hrt, hfr, hlo, hini⟩ := hX
  have hwd : ∀ (n : Nat) (w : Cond), wat n = some w → goodWord w = true → w.before args s = true := fun n w h g => hwA w (wA_mem h g)
  intro H locs ls hP hD hS hn hw hL hs hl
  exact lv_iushr hx hb hd rfl (kk H locs ls hP hD hS hn hw hL (wv_int (wv_tail (wv_tail hs))) hl)
theorem o_ineg (hX : mCx X) {x : Int32} (hd : decode (mby (mkk X)) pc = .ok (.ineg, 1)) (kk : mGo X cells slots ad L (.int (-x) :: r) W9 (pc + 1)) : mGo X cells slots ad L (.int x :: r) W9 pc := by
  obtain ⟨p, l, e, R, s, m, args, below, meth, c, Q, A, dC, dI, dA, adR, RO, k⟩ := X
  obtain ⟨hx, hb, hml, hown, hwA, hA, hK, hRO, hROA, hlk, hrt, hfr, hlo, hini⟩ := hX
  have hwd : ∀ (n : Nat) (w : Cond), wat n = some w → goodWord w = true → w.before args s = true := fun n w h g => hwA w (wA_mem h g)
  intro H locs ls hP hD hS hn hw hL hs hl
  exact lv_ineg hx hb hd  (kk H locs ls hP hD hS hn hw hL (wv_int (wv_tail hs)) hl)
theorem o_i2b (hX : mCx X) {x : Int32} (hd : decode (mby (mkk X)) pc = .ok (.i2b, 1)) (kk : mGo X cells slots ad L (.int x.toInt8.toInt32 :: r) W9 (pc + 1)) : mGo X cells slots ad L (.int x :: r) W9 pc := by
  obtain ⟨p, l, e, R, s, m, args, below, meth, c, Q, A, dC, dI, dA, adR, RO, k⟩ := X
  obtain ⟨hx, hb, hml, hown, hwA, hA, hK, hRO, hROA, hlk, hrt, hfr, hlo, hini⟩ := hX
  have hwd : ∀ (n : Nat) (w : Cond), wat n = some w → goodWord w = true → w.before args s = true := fun n w h g => hwA w (wA_mem h g)
  intro H locs ls hP hD hS hn hw hL hs hl
  exact lv_i2b hx hb hd rfl (kk H locs ls hP hD hS hn hw hL (wv_int (wv_tail hs)) hl)
theorem o_i2c (hX : mCx X) {x : Int32} (hd : decode (mby (mkk X)) pc = .ok (.i2c, 1)) (kk : mGo X cells slots ad L (.int (x.toUInt32 % 65536).toInt32 :: r) W9 (pc + 1)) : mGo X cells slots ad L (.int x :: r) W9 pc := by
  obtain ⟨p, l, e, R, s, m, args, below, meth, c, Q, A, dC, dI, dA, adR, RO, k⟩ := X
  obtain ⟨hx, hb, hml, hown, hwA, hA, hK, hRO, hROA, hlk, hrt, hfr, hlo, hini⟩ := hX
  have hwd : ∀ (n : Nat) (w : Cond), wat n = some w → goodWord w = true → w.before args s = true := fun n w h g => hwA w (wA_mem h g)
  intro H locs ls hP hD hS hn hw hL hs hl
  exact lv_i2c hx hb hd rfl (kk H locs ls hP hD hS hn hw hL (wv_int (wv_tail hs)) hl)
theorem o_i2l (hX : mCx X) {x : Int32} (hd : decode (mby (mkk X)) pc = .ok (.i2l, 1)) (kk : mGo X cells slots ad L (.long x.toInt64 :: r) W9 (pc + 1)) : mGo X cells slots ad L (.int x :: r) W9 pc := by
  obtain ⟨p, l, e, R, s, m, args, below, meth, c, Q, A, dC, dI, dA, adR, RO, k⟩ := X
  obtain ⟨hx, hb, hml, hown, hwA, hA, hK, hRO, hROA, hlk, hrt, hfr, hlo, hini⟩ := hX
  have hwd : ∀ (n : Nat) (w : Cond), wat n = some w → goodWord w = true → w.before args s = true := fun n w h g => hwA w (wA_mem h g)
  intro H locs ls hP hD hS hn hw hL hs hl
  exact lv_i2l hx hb hd rfl (kk H locs ls hP hD hS hn hw hL (wv_cons (fun _ e => by cases e) (wv_tail hs)) hl)
theorem o_i2f (hX : mCx X) {x : Int32} (hd : decode (mby (mkk X)) pc = .ok (.i2f, 1)) (kk : mGo X cells slots ad L (.float (FP.i2f x) :: r) W9 (pc + 1)) : mGo X cells slots ad L (.int x :: r) W9 pc := by
  obtain ⟨p, l, e, R, s, m, args, below, meth, c, Q, A, dC, dI, dA, adR, RO, k⟩ := X
  obtain ⟨hx, hb, hml, hown, hwA, hA, hK, hRO, hROA, hlk, hrt, hfr, hlo, hini⟩ := hX
  have hwd : ∀ (n : Nat) (w : Cond), wat n = some w → goodWord w = true → w.before args s = true := fun n w h g => hwA w (wA_mem h g)
  intro H locs ls hP hD hS hn hw hL hs hl
  exact lv_i2f hx hb hd  (kk H locs ls hP hD hS hn hw hL (wv_cons (fun _ e => by cases e) (wv_tail hs)) hl)
theorem o_i2d (hX : mCx X) {x : Int32} (hd : decode (mby (mkk X)) pc = .ok (.i2d, 1)) (kk : mGo X cells slots ad L (.double (FP.i2d x) :: r) W9 (pc + 1)) : mGo X cells slots ad L (.int x :: r) W9 pc := by
  obtain ⟨p, l, e, R, s, m, args, below, meth, c, Q, A, dC, dI, dA, adR, RO, k⟩ := X
  obtain ⟨hx, hb, hml, hown, hwA, hA, hK, hRO, hROA, hlk, hrt, hfr, hlo, hini⟩ := hX
  have hwd : ∀ (n : Nat) (w : Cond), wat n = some w → goodWord w = true → w.before args s = true := fun n w h g => hwA w (wA_mem h g)
  intro H locs ls hP hD hS hn hw hL hs hl
  exact lv_i2d hx hb hd  (kk H locs ls hP hD hS hn hw hL (wv_cons (fun _ e => by cases e) (wv_tail hs)) hl)
theorem o_lcmp (hX : mCx X) {x y : Int64} (hd : decode (mby (mkk X)) pc = .ok (.lcmp, 1)) (kk : mGo X cells slots ad L (.int (lg_cmp x y) :: r) W9 (pc + 1)) : mGo X cells slots ad L (.long y :: .long x :: r) W9 pc := by
  obtain ⟨p, l, e, R, s, m, args, below, meth, c, Q, A, dC, dI, dA, adR, RO, k⟩ := X
  obtain ⟨hx, hb, hml, hown, hwA, hA, hK, hRO, hROA, hlk, hrt, hfr, hlo, hini⟩ := hX
  have hwd : ∀ (n : Nat) (w : Cond), wat n = some w → goodWord w = true → w.before args s = true := fun n w h g => hwA w (wA_mem h g)
  intro H locs ls hP hD hS hn hw hL hs hl
  exact W.lcmp hx hb hd  (kk H locs ls hP hD hS hn hw hL (wv_int (wv_tail (wv_tail hs))) hl)
theorem o_fcmp (hX : mCx X) {x y : UInt32} {op : CmpOp} (hd : decode (mby (mkk X)) pc = .ok (.fcmp op, 1)) (kk : mGo X cells slots ad L (.int (Op.cmpValue (FP.fcmp x y) op) :: r) W9 (pc + 1)) : mGo X cells slots ad L (.float y :: .float x :: r) W9 pc := by
  obtain ⟨p, l, e, R, s, m, args, below, meth, c, Q, A, dC, dI, dA, adR, RO, k⟩ := X
  obtain ⟨hx, hb, hml, hown, hwA, hA, hK, hRO, hROA, hlk, hrt, hfr, hlo, hini⟩ := hX
  have hwd : ∀ (n : Nat) (w : Cond), wat n = some w → goodWord w = true → w.before args s = true := fun n w h g => hwA w (wA_mem h g)
  intro H locs ls hP hD hS hn hw hL hs hl
  exact lv_fcmp hx hb hd  (kk H locs ls hP hD hS hn hw hL (wv_int (wv_tail (wv_tail hs))) hl)
theorem o_dcmp (hX : mCx X) {x y : UInt64} {op : CmpOp} (hd : decode (mby (mkk X)) pc = .ok (.dcmp op, 1)) (kk : mGo X cells slots ad L (.int (Op.cmpValue (FP.dcmp x y) op) :: r) W9 (pc + 1)) : mGo X cells slots ad L (.double y :: .double x :: r) W9 pc := by
  obtain ⟨p, l, e, R, s, m, args, below, meth, c, Q, A, dC, dI, dA, adR, RO, k⟩ := X
  obtain ⟨hx, hb, hml, hown, hwA, hA, hK, hRO, hROA, hlk, hrt, hfr, hlo, hini⟩ := hX
  have hwd : ∀ (n : Nat) (w : Cond), wat n = some w → goodWord w = true → w.before args s = true := fun n w h g => hwA w (wA_mem h g)
  intro H locs ls hP hD hS hn hw hL hs hl
  exact lv_dcmp hx hb hd  (kk H locs ls hP hD hS hn hw hL (wv_int (wv_tail (wv_tail hs))) hl)
theorem o_iconst (hX : mCx X) {n : Int} {v : Int32} (hv : Int32.ofInt n = v) (hd : decode (mby (mkk X)) pc = .ok (.iconst n, 1)) (kk : mGo X cells slots ad L (.int v :: r) W9 (pc + 1)) : mGo X cells slots ad L r W9 pc := by
  obtain ⟨p, l, e, R, s, m, args, below, meth, c, Q, A, dC, dI, dA, adR, RO, k⟩ := X
  obtain ⟨hx, hb, hml, hown, hwA, hA, hK, hRO, hROA, hlk, hrt, hfr, hlo, hini⟩ := hX
  have hwd : ∀ (n : Nat) (w : Cond), wat n = some w → goodWord w = true → w.before args s = true := fun n w h g => hwA w (wA_mem h g)
  intro H locs ls hP hD hS hn hw hL hs hl
  exact lv_iconst hx hb hd hv (kk H locs ls hP hD hS hn hw hL (wv_cons (fun _ e => by cases e) hs) hl)
theorem o_bipush (hX : mCx X) {n : Int} {v : Int32} (hv : (Int8.ofInt n).toInt32 = v) (hd : decode (mby (mkk X)) pc = .ok (.bipush n, 2)) (kk : mGo X cells slots ad L (.int v :: r) W9 (pc + 2)) : mGo X cells slots ad L r W9 pc := by
  obtain ⟨p, l, e, R, s, m, args, below, meth, c, Q, A, dC, dI, dA, adR, RO, k⟩ := X
  obtain ⟨hx, hb, hml, hown, hwA, hA, hK, hRO, hROA, hlk, hrt, hfr, hlo, hini⟩ := hX
  have hwd : ∀ (n : Nat) (w : Cond), wat n = some w → goodWord w = true → w.before args s = true := fun n w h g => hwA w (wA_mem h g)
  intro H locs ls hP hD hS hn hw hL hs hl
  exact lv_bipush hx hb hd hv (kk H locs ls hP hD hS hn hw hL (wv_cons (fun _ e => by cases e) hs) hl)
theorem o_sipush (hX : mCx X) {n : Int} {v : Int32} (hv : (Int16.ofInt n).toInt32 = v) (hd : decode (mby (mkk X)) pc = .ok (.sipush n, 3)) (kk : mGo X cells slots ad L (.int v :: r) W9 (pc + 3)) : mGo X cells slots ad L r W9 pc := by
  obtain ⟨p, l, e, R, s, m, args, below, meth, c, Q, A, dC, dI, dA, adR, RO, k⟩ := X
  obtain ⟨hx, hb, hml, hown, hwA, hA, hK, hRO, hROA, hlk, hrt, hfr, hlo, hini⟩ := hX
  have hwd : ∀ (n : Nat) (w : Cond), wat n = some w → goodWord w = true → w.before args s = true := fun n w h g => hwA w (wA_mem h g)
  intro H locs ls hP hD hS hn hw hL hs hl
  exact lv_sipush hx hb hd hv (kk H locs ls hP hD hS hn hw hL (wv_cons (fun _ e => by cases e) hs) hl)
theorem o_dup (hX : mCx X) {a : Value} (ha : a.category = 1) (hd : decode (mby (mkk X)) pc = .ok (.dup, 1)) (kk : mGo X cells slots ad L (a :: a :: r) W9 (pc + 1)) : mGo X cells slots ad L (a :: r) W9 pc := by
  obtain ⟨p, l, e, R, s, m, args, below, meth, c, Q, A, dC, dI, dA, adR, RO, k⟩ := X
  obtain ⟨hx, hb, hml, hown, hwA, hA, hK, hRO, hROA, hlk, hrt, hfr, hlo, hini⟩ := hX
  have hwd : ∀ (n : Nat) (w : Cond), wat n = some w → goodWord w = true → w.before args s = true := fun n w h g => hwA w (wA_mem h g)
  intro H locs ls hP hD hS hn hw hL hs hl
  exact lv_dup hx hb hd ((cz_cat _ a).trans ha) (kk H locs ls hP hD hS hn hw hL (wv_cons (hs a List.mem_cons_self) hs) hl)
theorem o_dup_x1 (hX : mCx X) {a b : Value} (ha : a.category = 1) (hb2 : b.category = 1) (hd : decode (mby (mkk X)) pc = .ok (.dup_x1, 1)) (kk : mGo X cells slots ad L (a :: b :: a :: r) W9 (pc + 1)) : mGo X cells slots ad L (a :: b :: r) W9 pc := by
  obtain ⟨p, l, e, R, s, m, args, below, meth, c, Q, A, dC, dI, dA, adR, RO, k⟩ := X
  obtain ⟨hx, hb, hml, hown, hwA, hA, hK, hRO, hROA, hlk, hrt, hfr, hlo, hini⟩ := hX
  have hwd : ∀ (n : Nat) (w : Cond), wat n = some w → goodWord w = true → w.before args s = true := fun n w h g => hwA w (wA_mem h g)
  intro H locs ls hP hD hS hn hw hL hs hl
  exact lv_dup_x1 hx hb hd ((cz_cat _ a).trans ha) ((cz_cat _ b).trans hb2) (kk H locs ls hP hD hS hn hw hL (wv_cons (hs a List.mem_cons_self) (wv_cons (hs b (List.mem_cons_of_mem _ List.mem_cons_self)) (wv_cons (hs a List.mem_cons_self) (wv_tail (wv_tail hs))))) hl)
theorem o_dup2 (hX : mCx X) {a b : Value} (ha : a.category = 1) (hb2 : b.category = 1) (hd : decode (mby (mkk X)) pc = .ok (.dup2, 1)) (kk : mGo X cells slots ad L (a :: b :: a :: b :: r) W9 (pc + 1)) : mGo X cells slots ad L (a :: b :: r) W9 pc := by
  obtain ⟨p, l, e, R, s, m, args, below, meth, c, Q, A, dC, dI, dA, adR, RO, k⟩ := X
  obtain ⟨hx, hb, hml, hown, hwA, hA, hK, hRO, hROA, hlk, hrt, hfr, hlo, hini⟩ := hX
  have hwd : ∀ (n : Nat) (w : Cond), wat n = some w → goodWord w = true → w.before args s = true := fun n w h g => hwA w (wA_mem h g)
  intro H locs ls hP hD hS hn hw hL hs hl
  exact lv_dup2_11 hx hb hd ((cz_cat _ a).trans ha) ((cz_cat _ b).trans hb2) (kk H locs ls hP hD hS hn hw hL (wv_cons (hs a List.mem_cons_self) (wv_cons (hs b (List.mem_cons_of_mem _ List.mem_cons_self)) hs)) hl)
theorem o_pop (hX : mCx X) {a : Value} (ha : a.category = 1) (hd : decode (mby (mkk X)) pc = .ok (.pop, 1)) (kk : mGo X cells slots ad L r W9 (pc + 1)) : mGo X cells slots ad L (a :: r) W9 pc := by
  obtain ⟨p, l, e, R, s, m, args, below, meth, c, Q, A, dC, dI, dA, adR, RO, k⟩ := X
  obtain ⟨hx, hb, hml, hown, hwA, hA, hK, hRO, hROA, hlk, hrt, hfr, hlo, hini⟩ := hX
  have hwd : ∀ (n : Nat) (w : Cond), wat n = some w → goodWord w = true → w.before args s = true := fun n w h g => hwA w (wA_mem h g)
  intro H locs ls hP hD hS hn hw hL hs hl
  exact lv_pop hx hb hd ((cz_cat _ a).trans ha) (kk H locs ls hP hD hS hn hw hL (wv_tail hs) hl)
theorem o_iload (hX : mCx X) {i : Nat} {x : Int32} (hv : L[i]? = some (.int x)) (hd : decode (mby (mkk X)) pc = .ok (.iload i, 2)) (kk : mGo X cells slots ad L (.int x :: r) W9 (pc + 2)) : mGo X cells slots ad L r W9 pc := by
  obtain ⟨p, l, e, R, s, m, args, below, meth, c, Q, A, dC, dI, dA, adR, RO, k⟩ := X
  obtain ⟨hx, hb, hml, hown, hwA, hA, hK, hRO, hROA, hlk, hrt, hfr, hlo, hini⟩ := hX
  have hwd : ∀ (n : Nat) (w : Cond), wat n = some w → goodWord w = true → w.before args s = true := fun n w h g => hwA w (wA_mem h g)
  intro H locs ls hP hD hS hn hw hL hs hl
  exact lv_iload hx hb hd  (lz_at hl hv rfl) (kk H locs ls hP hD hS hn hw hL (wv_cons (wv_get hL hv) hs) hl)
theorem o_iload_n (hX : mCx X) {j : Fin 4} {i : Nat} {x : Int32} (hi : (j : Nat) = i) (hv : L[i]? = some (.int x)) (hd : decode (mby (mkk X)) pc = .ok (.iload_n j, 1)) (kk : mGo X cells slots ad L (.int x :: r) W9 (pc + 1)) : mGo X cells slots ad L r W9 pc := by
  obtain ⟨p, l, e, R, s, m, args, below, meth, c, Q, A, dC, dI, dA, adR, RO, k⟩ := X
  obtain ⟨hx, hb, hml, hown, hwA, hA, hK, hRO, hROA, hlk, hrt, hfr, hlo, hini⟩ := hX
  have hwd : ∀ (n : Nat) (w : Cond), wat n = some w → goodWord w = true → w.before args s = true := fun n w h g => hwA w (wA_mem h g)
  intro H locs ls hP hD hS hn hw hL hs hl
  exact lv_iload_n hx hb hd hi (lz_at hl hv rfl) (kk H locs ls hP hD hS hn hw hL (wv_cons (wv_get hL hv) hs) hl)
theorem o_aload (hX : mCx X) {i : Nat} {x : Nat} (hv : L[i]? = some (.ref x)) (hd : decode (mby (mkk X)) pc = .ok (.aload i, 2)) (kk : mGo X cells slots ad L (.ref x :: r) W9 (pc + 2)) : mGo X cells slots ad L r W9 pc := by
  obtain ⟨p, l, e, R, s, m, args, below, meth, c, Q, A, dC, dI, dA, adR, RO, k⟩ := X
  obtain ⟨hx, hb, hml, hown, hwA, hA, hK, hRO, hROA, hlk, hrt, hfr, hlo, hini⟩ := hX
  have hwd : ∀ (n : Nat) (w : Cond), wat n = some w → goodWord w = true → w.before args s = true := fun n w h g => hwA w (wA_mem h g)
  intro H locs ls hP hD hS hn hw hL hs hl
  exact lv_aload hx hb hd  (lz_at hl hv rfl) (kk H locs ls hP hD hS hn hw hL (wv_cons (wv_get hL hv) hs) hl)
theorem o_aload_n (hX : mCx X) {j : Fin 4} {i : Nat} {x : Nat} (hi : (j : Nat) = i) (hv : L[i]? = some (.ref x)) (hd : decode (mby (mkk X)) pc = .ok (.aload_n j, 1)) (kk : mGo X cells slots ad L (.ref x :: r) W9 (pc + 1)) : mGo X cells slots ad L r W9 pc := by
  obtain ⟨p, l, e, R, s, m, args, below, meth, c, Q, A, dC, dI, dA, adR, RO, k⟩ := X
  obtain ⟨hx, hb, hml, hown, hwA, hA, hK, hRO, hROA, hlk, hrt, hfr, hlo, hini⟩ := hX
  have hwd : ∀ (n : Nat) (w : Cond), wat n = some w → goodWord w = true → w.before args s = true := fun n w h g => hwA w (wA_mem h g)
  intro H locs ls hP hD hS hn hw hL hs hl
  exact lv_aload_n hx hb hd hi (lz_at hl hv rfl) (kk H locs ls hP hD hS hn hw hL (wv_cons (wv_get hL hv) hs) hl)
theorem o_fload (hX : mCx X) {i : Nat} {x : UInt32} (hv : L[i]? = some (.float x)) (hd : decode (mby (mkk X)) pc = .ok (.fload i, 2)) (kk : mGo X cells slots ad L (.float x :: r) W9 (pc + 2)) : mGo X cells slots ad L r W9 pc := by
  obtain ⟨p, l, e, R, s, m, args, below, meth, c, Q, A, dC, dI, dA, adR, RO, k⟩ := X
  obtain ⟨hx, hb, hml, hown, hwA, hA, hK, hRO, hROA, hlk, hrt, hfr, hlo, hini⟩ := hX
  have hwd : ∀ (n : Nat) (w : Cond), wat n = some w → goodWord w = true → w.before args s = true := fun n w h g => hwA w (wA_mem h g)
  intro H locs ls hP hD hS hn hw hL hs hl
  exact lv_fload hx hb hd  (lz_at hl hv rfl) (kk H locs ls hP hD hS hn hw hL (wv_cons (wv_get hL hv) hs) hl)
theorem o_fload_n (hX : mCx X) {j : Fin 4} {i : Nat} {x : UInt32} (hi : (j : Nat) = i) (hv : L[i]? = some (.float x)) (hd : decode (mby (mkk X)) pc = .ok (.fload_n j, 1)) (kk : mGo X cells slots ad L (.float x :: r) W9 (pc + 1)) : mGo X cells slots ad L r W9 pc := by
  obtain ⟨p, l, e, R, s, m, args, below, meth, c, Q, A, dC, dI, dA, adR, RO, k⟩ := X
  obtain ⟨hx, hb, hml, hown, hwA, hA, hK, hRO, hROA, hlk, hrt, hfr, hlo, hini⟩ := hX
  have hwd : ∀ (n : Nat) (w : Cond), wat n = some w → goodWord w = true → w.before args s = true := fun n w h g => hwA w (wA_mem h g)
  intro H locs ls hP hD hS hn hw hL hs hl
  exact lv_fload_n hx hb hd hi (lz_at hl hv rfl) (kk H locs ls hP hD hS hn hw hL (wv_cons (wv_get hL hv) hs) hl)
theorem o_dload (hX : mCx X) {i : Nat} {x : UInt64} (hv : L[i]? = some (.double x)) (hd : decode (mby (mkk X)) pc = .ok (.dload i, 2)) (kk : mGo X cells slots ad L (.double x :: r) W9 (pc + 2)) : mGo X cells slots ad L r W9 pc := by
  obtain ⟨p, l, e, R, s, m, args, below, meth, c, Q, A, dC, dI, dA, adR, RO, k⟩ := X
  obtain ⟨hx, hb, hml, hown, hwA, hA, hK, hRO, hROA, hlk, hrt, hfr, hlo, hini⟩ := hX
  have hwd : ∀ (n : Nat) (w : Cond), wat n = some w → goodWord w = true → w.before args s = true := fun n w h g => hwA w (wA_mem h g)
  intro H locs ls hP hD hS hn hw hL hs hl
  exact lv_dload hx hb hd  (lz_at hl hv rfl) (kk H locs ls hP hD hS hn hw hL (wv_cons (wv_get hL hv) hs) hl)
theorem o_dload_n (hX : mCx X) {j : Fin 4} {i : Nat} {x : UInt64} (hi : (j : Nat) = i) (hv : L[i]? = some (.double x)) (hd : decode (mby (mkk X)) pc = .ok (.dload_n j, 1)) (kk : mGo X cells slots ad L (.double x :: r) W9 (pc + 1)) : mGo X cells slots ad L r W9 pc := by
  obtain ⟨p, l, e, R, s, m, args, below, meth, c, Q, A, dC, dI, dA, adR, RO, k⟩ := X
  obtain ⟨hx, hb, hml, hown, hwA, hA, hK, hRO, hROA, hlk, hrt, hfr, hlo, hini⟩ := hX
  have hwd : ∀ (n : Nat) (w : Cond), wat n = some w → goodWord w = true → w.before args s = true := fun n w h g => hwA w (wA_mem h g)
  intro H locs ls hP hD hS hn hw hL hs hl
  exact lv_dload_n hx hb hd hi (lz_at hl hv rfl) (kk H locs ls hP hD hS hn hw hL (wv_cons (wv_get hL hv) hs) hl)
theorem o_lload (hX : mCx X) {i : Nat} {x : Int64} (hv : L[i]? = some (.long x)) (hd : decode (mby (mkk X)) pc = .ok (.lload i, 2)) (kk : mGo X cells slots ad L (.long x :: r) W9 (pc + 2)) : mGo X cells slots ad L r W9 pc := by
  obtain ⟨p, l, e, R, s, m, args, below, meth, c, Q, A, dC, dI, dA, adR, RO, k⟩ := X
  obtain ⟨hx, hb, hml, hown, hwA, hA, hK, hRO, hROA, hlk, hrt, hfr, hlo, hini⟩ := hX
  have hwd : ∀ (n : Nat) (w : Cond), wat n = some w → goodWord w = true → w.before args s = true := fun n w h g => hwA w (wA_mem h g)
  intro H locs ls hP hD hS hn hw hL hs hl
  exact lv_lload hx hb hd  (lz_at hl hv rfl) (kk H locs ls hP hD hS hn hw hL (wv_cons (wv_get hL hv) hs) hl)
theorem o_lload_n (hX : mCx X) {j : Fin 4} {i : Nat} {x : Int64} (hi : (j : Nat) = i) (hv : L[i]? = some (.long x)) (hd : decode (mby (mkk X)) pc = .ok (.lload_n j, 1)) (kk : mGo X cells slots ad L (.long x :: r) W9 (pc + 1)) : mGo X cells slots ad L r W9 pc := by
  obtain ⟨p, l, e, R, s, m, args, below, meth, c, Q, A, dC, dI, dA, adR, RO, k⟩ := X
  obtain ⟨hx, hb, hml, hown, hwA, hA, hK, hRO, hROA, hlk, hrt, hfr, hlo, hini⟩ := hX
  have hwd : ∀ (n : Nat) (w : Cond), wat n = some w → goodWord w = true → w.before args s = true := fun n w h g => hwA w (wA_mem h g)
  intro H locs ls hP hD hS hn hw hL hs hl
  exact lv_lload_n hx hb hd hi (lz_at hl hv rfl) (kk H locs ls hP hD hS hn hw hL (wv_cons (wv_get hL hv) hs) hl)
theorem o_istore (hX : mCx X) {i : Nat} {x : Int32} (hp : okp L i = true) (hm : i < mml (mkk X)) (hd : decode (mby (mkk X)) pc = .ok (.istore i, 2)) (kk : mGo X cells slots ad (L.set i (.int x)) r W9 (pc + 2)) : mGo X cells slots ad L (.int x :: r) W9 pc := by
  obtain ⟨p, l, e, R, s, m, args, below, meth, c, Q, A, dC, dI, dA, adR, RO, k⟩ := X
  obtain ⟨hx, hb, hml, hown, hwA, hA, hK, hRO, hROA, hlk, hrt, hfr, hlo, hini⟩ := hX
  have hwd : ∀ (n : Nat) (w : Cond), wat n = some w → goodWord w = true → w.before args s = true := fun n w h g => hwA w (wA_mem h g)
  intro H locs ls hP hD hS hn hw hL hs hl
  exact lv_istore hx hb hd  (lz_has hl) hm rfl (fun ls' h' => kk H locs ls' hP hD hS hn hw (wv_set (hs _ List.mem_cons_self) hL) (wv_tail hs) (lz_set (v := .int x) hl hp rfl h'))
theorem o_istore_n (hX : mCx X) {j : Fin 4} {i : Nat} {x : Int32} (hi : (j : Nat) = i) (hp : okp L i = true) (hm : i < mml (mkk X)) (hd : decode (mby (mkk X)) pc = .ok (.istore_n j, 1)) (kk : mGo X cells slots ad (L.set i (.int x)) r W9 (pc + 1)) : mGo X cells slots ad L (.int x :: r) W9 pc := by
  obtain ⟨p, l, e, R, s, m, args, below, meth, c, Q, A, dC, dI, dA, adR, RO, k⟩ := X
  obtain ⟨hx, hb, hml, hown, hwA, hA, hK, hRO, hROA, hlk, hrt, hfr, hlo, hini⟩ := hX
  have hwd : ∀ (n : Nat) (w : Cond), wat n = some w → goodWord w = true → w.before args s = true := fun n w h g => hwA w (wA_mem h g)
  intro H locs ls hP hD hS hn hw hL hs hl
  exact lv_istore_n hx hb hd hi (lz_has hl) hm rfl (fun ls' h' => kk H locs ls' hP hD hS hn hw (wv_set (hs _ List.mem_cons_self) hL) (wv_tail hs) (lz_set (v := .int x) hl hp rfl h'))
theorem o_astore (hX : mCx X) {i : Nat} {x : Nat} (hp : okp L i = true) (hm : i < mml (mkk X)) (hd : decode (mby (mkk X)) pc = .ok (.astore i, 2)) (kk : mGo X cells slots ad (L.set i (.ref x)) r W9 (pc + 2)) : mGo X cells slots ad L (.ref x :: r) W9 pc := by
  obtain ⟨p, l, e, R, s, m, args, below, meth, c, Q, A, dC, dI, dA, adR, RO, k⟩ := X
  obtain ⟨hx, hb, hml, hown, hwA, hA, hK, hRO, hROA, hlk, hrt, hfr, hlo, hini⟩ := hX
  have hwd : ∀ (n : Nat) (w : Cond), wat n = some w → goodWord w = true → w.before args s = true := fun n w h g => hwA w (wA_mem h g)
  intro H locs ls hP hD hS hn hw hL hs hl
  exact lv_astore hx hb hd  (lz_has hl) hm rfl (fun ls' h' => kk H locs ls' hP hD hS hn hw (wv_set (hs _ List.mem_cons_self) hL) (wv_tail hs) (lz_set (v := .ref x) hl hp rfl h'))
theorem o_astore_n (hX : mCx X) {j : Fin 4} {i : Nat} {x : Nat} (hi : (j : Nat) = i) (hp : okp L i = true) (hm : i < mml (mkk X)) (hd : decode (mby (mkk X)) pc = .ok (.astore_n j, 1)) (kk : mGo X cells slots ad (L.set i (.ref x)) r W9 (pc + 1)) : mGo X cells slots ad L (.ref x :: r) W9 pc := by
  obtain ⟨p, l, e, R, s, m, args, below, meth, c, Q, A, dC, dI, dA, adR, RO, k⟩ := X
  obtain ⟨hx, hb, hml, hown, hwA, hA, hK, hRO, hROA, hlk, hrt, hfr, hlo, hini⟩ := hX
  have hwd : ∀ (n : Nat) (w : Cond), wat n = some w → goodWord w = true → w.before args s = true := fun n w h g => hwA w (wA_mem h g)
  intro H locs ls hP hD hS hn hw hL hs hl
  exact lv_astore_n hx hb hd hi (lz_has hl) hm rfl (fun ls' h' => kk H locs ls' hP hD hS hn hw (wv_set (hs _ List.mem_cons_self) hL) (wv_tail hs) (lz_set (v := .ref x) hl hp rfl h'))
theorem o_fstore (hX : mCx X) {i : Nat} {x : UInt32} (hp : okp L i = true) (hm : i < mml (mkk X)) (hd : decode (mby (mkk X)) pc = .ok (.fstore i, 2)) (kk : mGo X cells slots ad (L.set i (.float x)) r W9 (pc + 2)) : mGo X cells slots ad L (.float x :: r) W9 pc := by
  obtain ⟨p, l, e, R, s, m, args, below, meth, c, Q, A, dC, dI, dA, adR, RO, k⟩ := X
  obtain ⟨hx, hb, hml, hown, hwA, hA, hK, hRO, hROA, hlk, hrt, hfr, hlo, hini⟩ := hX
  have hwd : ∀ (n : Nat) (w : Cond), wat n = some w → goodWord w = true → w.before args s = true := fun n w h g => hwA w (wA_mem h g)
  intro H locs ls hP hD hS hn hw hL hs hl
  exact lv_fstore hx hb hd  (lz_has hl) hm rfl (fun ls' h' => kk H locs ls' hP hD hS hn hw (wv_set (hs _ List.mem_cons_self) hL) (wv_tail hs) (lz_set (v := .float x) hl hp rfl h'))
theorem o_fstore_n (hX : mCx X) {j : Fin 4} {i : Nat} {x : UInt32} (hi : (j : Nat) = i) (hp : okp L i = true) (hm : i < mml (mkk X)) (hd : decode (mby (mkk X)) pc = .ok (.fstore_n j, 1)) (kk : mGo X cells slots ad (L.set i (.float x)) r W9 (pc + 1)) : mGo X cells slots ad L (.float x :: r) W9 pc := by
  obtain ⟨p, l, e, R, s, m, args, below, meth, c, Q, A, dC, dI, dA, adR, RO, k⟩ := X
  obtain ⟨hx, hb, hml, hown, hwA, hA, hK, hRO, hROA, hlk, hrt, hfr, hlo, hini⟩ := hX
  have hwd : ∀ (n : Nat) (w : Cond), wat n = some w → goodWord w = true → w.before args s = true := fun n w h g => hwA w (wA_mem h g)
  intro H locs ls hP hD hS hn hw hL hs hl
  exact lv_fstore_n hx hb hd hi (lz_has hl) hm rfl (fun ls' h' => kk H locs ls' hP hD hS hn hw (wv_set (hs _ List.mem_cons_self) hL) (wv_tail hs) (lz_set (v := .float x) hl hp rfl h'))
theorem o_dstore (hX : mCx X) {i : Nat} {x : UInt64} (hp : okp L i = true) (hm : i + 1 < mml (mkk X)) (hd : decode (mby (mkk X)) pc = .ok (.dstore i, 2)) (kk : mGo X cells slots ad ((L.set i (.double x)).set (i + 1) (.retAddr 0)) r W9 (pc + 2)) : mGo X cells slots ad L (.double x :: r) W9 pc := by
  obtain ⟨p, l, e, R, s, m, args, below, meth, c, Q, A, dC, dI, dA, adR, RO, k⟩ := X
  obtain ⟨hx, hb, hml, hown, hwA, hA, hK, hRO, hROA, hlk, hrt, hfr, hlo, hini⟩ := hX
  have hwd : ∀ (n : Nat) (w : Cond), wat n = some w → goodWord w = true → w.before args s = true := fun n w h g => hwA w (wA_mem h g)
  intro H locs ls hP hD hS hn hw hL hs hl
  exact lv_dstore hx hb hd  (lz_has hl) hm rfl (fun ls' h' => kk H locs ls' hP hD hS hn hw (wv_set (fun _ e => by cases e) (wv_set (hs _ List.mem_cons_self) hL)) (wv_tail hs) (lz_set2 (v := .double x) hl hp h'))
theorem o_dstore_n (hX : mCx X) {j : Fin 4} {i : Nat} {x : UInt64} (hi : (j : Nat) = i) (hp : okp L i = true) (hm : i + 1 < mml (mkk X)) (hd : decode (mby (mkk X)) pc = .ok (.dstore_n j, 1)) (kk : mGo X cells slots ad ((L.set i (.double x)).set (i + 1) (.retAddr 0)) r W9 (pc + 1)) : mGo X cells slots ad L (.double x :: r) W9 pc := by
  obtain ⟨p, l, e, R, s, m, args, below, meth, c, Q, A, dC, dI, dA, adR, RO, k⟩ := X
  obtain ⟨hx, hb, hml, hown, hwA, hA, hK, hRO, hROA, hlk, hrt, hfr, hlo, hini⟩ := hX
  have hwd : ∀ (n : Nat) (w : Cond), wat n = some w → goodWord w = true → w.before args s = true := fun n w h g => hwA w (wA_mem h g)
  intro H locs ls hP hD hS hn hw hL hs hl
  exact lv_dstore_n hx hb hd hi (lz_has hl) hm rfl (fun ls' h' => kk H locs ls' hP hD hS hn hw (wv_set (fun _ e => by cases e) (wv_set (hs _ List.mem_cons_self) hL)) (wv_tail hs) (lz_set2 (v := .double x) hl hp h'))
theorem o_iinc (hX : mCx X) {i : Nat} {n : Int} {x v : Int32} (hv : L[i]? = some (.int x)) (hc : Int32.ofInt n = v) (hp : okp L i = true) (hm : i < mml (mkk X)) (hd : decode (mby (mkk X)) pc = .ok (.iinc i n, 3)) (kk : mGo X cells slots ad (L.set i (.int (x + v))) r W9 (pc + 3)) : mGo X cells slots ad L r W9 pc := by
  obtain ⟨p, l, e, R, s, m, args, below, meth, c, Q, A, dC, dI, dA, adR, RO, k⟩ := X
  obtain ⟨hx, hb, hml, hown, hwA, hA, hK, hRO, hROA, hlk, hrt, hfr, hlo, hini⟩ := hX
  have hwd : ∀ (n : Nat) (w : Cond), wat n = some w → goodWord w = true → w.before args s = true := fun n w h g => hwA w (wA_mem h g)
  intro H locs ls hP hD hS hn hw hL hs hl
  obtain ⟨j, hj⟩ := List.getElem?_of_mem ((lqq_mem (mz adR ad) L 0 (i, .int x)).mpr ⟨i, .int x, hv, rfl, by simp [cz]⟩)
  exact lv_iinc hx hb hd (lz_has hl) hj (by rw [hc]) hm rfl (fun ls' h' => kk H locs ls' hP hD hS hn hw (wv_set (fun _ e => by cases e) hL) hs (lz_set (v := .int (x + v)) hl hp rfl h'))
theorem o_if_eq (hX : mCx X) {x : Int32} {off : Int} {t : Nat} (ht : (pc : Int) + off = (t : Int)) (hd : decode (mby (mkk X)) pc = .ok (.ifCond .eq off, 3)) (kt : (x = 0) → mGo X cells slots ad L r W9 t) (kf : ¬ (x = 0) → mGo X cells slots ad L r W9 (pc + 3)) : mGo X cells slots ad L (.int x :: r) W9 pc := by
  obtain ⟨p, l, e, R, s, m, args, below, meth, c, Q, A, dC, dI, dA, adR, RO, k⟩ := X
  obtain ⟨hx, hb, hml, hown, hwA, hA, hK, hRO, hROA, hlk, hrt, hfr, hlo, hini⟩ := hX
  have hwd : ∀ (n : Nat) (w : Cond), wat n = some w → goodWord w = true → w.before args s = true := fun n w h g => hwA w (wA_mem h g)
  intro H locs ls hP hD hS hn hw hL hs hl
  exact lv_if_eq hx hb hd ht (fun h9 => kt h9 H locs ls hP hD hS hn hw hL (wv_tail hs) hl) (fun h9 => kf h9 H locs ls hP hD hS hn hw hL (wv_tail hs) hl)
theorem o_if_lt (hX : mCx X) {x : Int32} {off : Int} {t : Nat} (ht : (pc : Int) + off = (t : Int)) (hd : decode (mby (mkk X)) pc = .ok (.ifCond .lt off, 3)) (kt : (x < 0) → mGo X cells slots ad L r W9 t) (kf : ¬ (x < 0) → mGo X cells slots ad L r W9 (pc + 3)) : mGo X cells slots ad L (.int x :: r) W9 pc := by
  obtain ⟨p, l, e, R, s, m, args, below, meth, c, Q, A, dC, dI, dA, adR, RO, k⟩ := X
  obtain ⟨hx, hb, hml, hown, hwA, hA, hK, hRO, hROA, hlk, hrt, hfr, hlo, hini⟩ := hX
  have hwd : ∀ (n : Nat) (w : Cond), wat n = some w → goodWord w = true → w.before args s = true := fun n w h g => hwA w (wA_mem h g)
  intro H locs ls hP hD hS hn hw hL hs hl
  exact lv_if_lt hx hb hd ht (fun h9 => kt h9 H locs ls hP hD hS hn hw hL (wv_tail hs) hl) (fun h9 => kf h9 H locs ls hP hD hS hn hw hL (wv_tail hs) hl)
theorem o_if_gt (hX : mCx X) {x : Int32} {off : Int} {t : Nat} (ht : (pc : Int) + off = (t : Int)) (hd : decode (mby (mkk X)) pc = .ok (.ifCond .gt off, 3)) (kt : (0 < x) → mGo X cells slots ad L r W9 t) (kf : ¬ (0 < x) → mGo X cells slots ad L r W9 (pc + 3)) : mGo X cells slots ad L (.int x :: r) W9 pc := by
  obtain ⟨p, l, e, R, s, m, args, below, meth, c, Q, A, dC, dI, dA, adR, RO, k⟩ := X
  obtain ⟨hx, hb, hml, hown, hwA, hA, hK, hRO, hROA, hlk, hrt, hfr, hlo, hini⟩ := hX
  have hwd : ∀ (n : Nat) (w : Cond), wat n = some w → goodWord w = true → w.before args s = true := fun n w h g => hwA w (wA_mem h g)
  intro H locs ls hP hD hS hn hw hL hs hl
  exact lv_if_gt hx hb hd ht (fun h9 => kt h9 H locs ls hP hD hS hn hw hL (wv_tail hs) hl) (fun h9 => kf h9 H locs ls hP hD hS hn hw hL (wv_tail hs) hl)
theorem o_if_le (hX : mCx X) {x : Int32} {off : Int} {t : Nat} (ht : (pc : Int) + off = (t : Int)) (hd : decode (mby (mkk X)) pc = .ok (.ifCond .le off, 3)) (kt : (x ≤ 0) → mGo X cells slots ad L r W9 t) (kf : ¬ (x ≤ 0) → mGo X cells slots ad L r W9 (pc + 3)) : mGo X cells slots ad L (.int x :: r) W9 pc := by
  obtain ⟨p, l, e, R, s, m, args, below, meth, c, Q, A, dC, dI, dA, adR, RO, k⟩ := X
  obtain ⟨hx, hb, hml, hown, hwA, hA, hK, hRO, hROA, hlk, hrt, hfr, hlo, hini⟩ := hX
  have hwd : ∀ (n : Nat) (w : Cond), wat n = some w → goodWord w = true → w.before args s = true := fun n w h g => hwA w (wA_mem h g)
  intro H locs ls hP hD hS hn hw hL hs hl
  exact lv_if_le hx hb hd ht (fun h9 => kt h9 H locs ls hP hD hS hn hw hL (wv_tail hs) hl) (fun h9 => kf h9 H locs ls hP hD hS hn hw hL (wv_tail hs) hl)
theorem o_icmp_eq (hX : mCx X) {x y : Int32} {off : Int} {t : Nat} (ht : (pc : Int) + off = (t : Int)) (hd : decode (mby (mkk X)) pc = .ok (.if_icmp .eq off, 3)) (kt : (x = y) → mGo X cells slots ad L r W9 t) (kf : ¬ (x = y) → mGo X cells slots ad L r W9 (pc + 3)) : mGo X cells slots ad L (.int y :: .int x :: r) W9 pc := by
  obtain ⟨p, l, e, R, s, m, args, below, meth, c, Q, A, dC, dI, dA, adR, RO, k⟩ := X
  obtain ⟨hx, hb, hml, hown, hwA, hA, hK, hRO, hROA, hlk, hrt, hfr, hlo, hini⟩ := hX
  have hwd : ∀ (n : Nat) (w : Cond), wat n = some w → goodWord w = true → w.before args s = true := fun n w h g => hwA w (wA_mem h g)
  intro H locs ls hP hD hS hn hw hL hs hl
  exact lv_icmp_eq hx hb hd ht (fun h9 => kt h9 H locs ls hP hD hS hn hw hL (wv_tail (wv_tail hs)) hl) (fun h9 => kf h9 H locs ls hP hD hS hn hw hL (wv_tail (wv_tail hs)) hl)
theorem o_icmp_lt (hX : mCx X) {x y : Int32} {off : Int} {t : Nat} (ht : (pc : Int) + off = (t : Int)) (hd : decode (mby (mkk X)) pc = .ok (.if_icmp .lt off, 3)) (kt : (x < y) → mGo X cells slots ad L r W9 t) (kf : ¬ (x < y) → mGo X cells slots ad L r W9 (pc + 3)) : mGo X cells slots ad L (.int y :: .int x :: r) W9 pc := by
  obtain ⟨p, l, e, R, s, m, args, below, meth, c, Q, A, dC, dI, dA, adR, RO, k⟩ := X
  obtain ⟨hx, hb, hml, hown, hwA, hA, hK, hRO, hROA, hlk, hrt, hfr, hlo, hini⟩ := hX
  have hwd : ∀ (n : Nat) (w : Cond), wat n = some w → goodWord w = true → w.before args s = true := fun n w h g => hwA w (wA_mem h g)
  intro H locs ls hP hD hS hn hw hL hs hl
  exact lv_icmp_lt hx hb hd ht (fun h9 => kt h9 H locs ls hP hD hS hn hw hL (wv_tail (wv_tail hs)) hl) (fun h9 => kf h9 H locs ls hP hD hS hn hw hL (wv_tail (wv_tail hs)) hl)
theorem o_icmp_gt (hX : mCx X) {x y : Int32} {off : Int} {t : Nat} (ht : (pc : Int) + off = (t : Int)) (hd : decode (mby (mkk X)) pc = .ok (.if_icmp .gt off, 3)) (kt : (y < x) → mGo X cells slots ad L r W9 t) (kf : ¬ (y < x) → mGo X cells slots ad L r W9 (pc + 3)) : mGo X cells slots ad L (.int y :: .int x :: r) W9 pc := by
  obtain ⟨p, l, e, R, s, m, args, below, meth, c, Q, A, dC, dI, dA, adR, RO, k⟩ := X
  obtain ⟨hx, hb, hml, hown, hwA, hA, hK, hRO, hROA, hlk, hrt, hfr, hlo, hini⟩ := hX
  have hwd : ∀ (n : Nat) (w : Cond), wat n = some w → goodWord w = true → w.before args s = true := fun n w h g => hwA w (wA_mem h g)
  intro H locs ls hP hD hS hn hw hL hs hl
  exact lv_icmp_gt hx hb hd ht (fun h9 => kt h9 H locs ls hP hD hS hn hw hL (wv_tail (wv_tail hs)) hl) (fun h9 => kf h9 H locs ls hP hD hS hn hw hL (wv_tail (wv_tail hs)) hl)
theorem o_icmp_le (hX : mCx X) {x y : Int32} {off : Int} {t : Nat} (ht : (pc : Int) + off = (t : Int)) (hd : decode (mby (mkk X)) pc = .ok (.if_icmp .le off, 3)) (kt : (x ≤ y) → mGo X cells slots ad L r W9 t) (kf : ¬ (x ≤ y) → mGo X cells slots ad L r W9 (pc + 3)) : mGo X cells slots ad L (.int y :: .int x :: r) W9 pc := by
  obtain ⟨p, l, e, R, s, m, args, below, meth, c, Q, A, dC, dI, dA, adR, RO, k⟩ := X
  obtain ⟨hx, hb, hml, hown, hwA, hA, hK, hRO, hROA, hlk, hrt, hfr, hlo, hini⟩ := hX
  have hwd : ∀ (n : Nat) (w : Cond), wat n = some w → goodWord w = true → w.before args s = true := fun n w h g => hwA w (wA_mem h g)
  intro H locs ls hP hD hS hn hw hL hs hl
  exact lv_icmp_le hx hb hd ht (fun h9 => kt h9 H locs ls hP hD hS hn hw hL (wv_tail (wv_tail hs)) hl) (fun h9 => kf h9 H locs ls hP hD hS hn hw hL (wv_tail (wv_tail hs)) hl)
theorem o_goto (hX : mCx X) {off : Int} {t : Nat} (ht : (pc : Int) + off = (t : Int)) (hd : decode (mby (mkk X)) pc = .ok (.goto off, 3)) (kk : mGo X cells slots ad L r W9 t) : mGo X cells slots ad L r W9 pc := by
  obtain ⟨p, l, e, R, s, m, args, below, meth, c, Q, A, dC, dI, dA, adR, RO, k⟩ := X
  obtain ⟨hx, hb, hml, hown, hwA, hA, hK, hRO, hROA, hlk, hrt, hfr, hlo, hini⟩ := hX
  have hwd : ∀ (n : Nat) (w : Cond), wat n = some w → goodWord w = true → w.before args s = true := fun n w h g => hwA w (wA_mem h g)
  intro H locs ls hP hD hS hn hw hL hs hl
  exact lv_goto hx hb hd ht (kk H locs ls hP hD hS hn hw hL hs hl)
theorem o_idiv (hX : mCx X) {x y : Int32} (hy : ¬ y = 0) (hd : decode (mby (mkk X)) pc = .ok (.idiv, 1)) (kk : mGo X cells slots ad L (.int (x / y) :: r) W9 (pc + 1)) : mGo X cells slots ad L (.int y :: .int x :: r) W9 pc := by
  obtain ⟨p, l, e, R, s, m, args, below, meth, c, Q, A, dC, dI, dA, adR, RO, k⟩ := X
  obtain ⟨hx, hb, hml, hown, hwA, hA, hK, hRO, hROA, hlk, hrt, hfr, hlo, hini⟩ := hX
  have hwd : ∀ (n : Nat) (w : Cond), wat n = some w → goodWord w = true → w.before args s = true := fun n w h g => hwA w (wA_mem h g)
  intro H locs ls hP hD hS hn hw hL hs hl
  exact lv_idiv hx hb hd hy (kk H locs ls hP hD hS hn hw hL (wv_int (wv_tail (wv_tail hs))) hl)
theorem o_irem (hX : mCx X) {x y : Int32} (hy : ¬ y = 0) (hd : decode (mby (mkk X)) pc = .ok (.irem, 1)) (kk : mGo X cells slots ad L (.int (x - x / y * y) :: r) W9 (pc + 1)) : mGo X cells slots ad L (.int y :: .int x :: r) W9 pc := by
  obtain ⟨p, l, e, R, s, m, args, below, meth, c, Q, A, dC, dI, dA, adR, RO, k⟩ := X
  obtain ⟨hx, hb, hml, hown, hwA, hA, hK, hRO, hROA, hlk, hrt, hfr, hlo, hini⟩ := hX
  have hwd : ∀ (n : Nat) (w : Cond), wat n = some w → goodWord w = true → w.before args s = true := fun n w h g => hwA w (wA_mem h g)
  intro H locs ls hP hD hS hn hw hL hs hl
  exact lv_irem hx hb hd hy (kk H locs ls hP hD hS hn hw hL (wv_int (wv_tail (wv_tail hs))) hl)
theorem o_fdiv (hX : mCx X) {x y : UInt32} (hy : vf_n32 (FP.fdiv x y)) (hd : decode (mby (mkk X)) pc = .ok (.fdiv, 1)) (kk : mGo X cells slots ad L (.float (FP.fdiv x y) :: r) W9 (pc + 1)) : mGo X cells slots ad L (.float y :: .float x :: r) W9 pc := by
  obtain ⟨p, l, e, R, s, m, args, below, meth, c, Q, A, dC, dI, dA, adR, RO, k⟩ := X
  obtain ⟨hx, hb, hml, hown, hwA, hA, hK, hRO, hROA, hlk, hrt, hfr, hlo, hini⟩ := hX
  have hwd : ∀ (n : Nat) (w : Cond), wat n = some w → goodWord w = true → w.before args s = true := fun n w h g => hwA w (wA_mem h g)
  intro H locs ls hP hD hS hn hw hL hs hl
  exact lv_fdiv hx hb hd hy (kk H locs ls hP hD hS hn hw hL (wv_cons (fun _ e => by cases e) (wv_tail (wv_tail hs))) hl)
theorem o_ddiv (hX : mCx X) {x y : UInt64} (hy : vf_n64 (FP.ddiv x y)) (hd : decode (mby (mkk X)) pc = .ok (.ddiv, 1)) (kk : mGo X cells slots ad L (.double (FP.ddiv x y) :: r) W9 (pc + 1)) : mGo X cells slots ad L (.double y :: .double x :: r) W9 pc := by
  obtain ⟨p, l, e, R, s, m, args, below, meth, c, Q, A, dC, dI, dA, adR, RO, k⟩ := X
  obtain ⟨hx, hb, hml, hown, hwA, hA, hK, hRO, hROA, hlk, hrt, hfr, hlo, hini⟩ := hX
  have hwd : ∀ (n : Nat) (w : Cond), wat n = some w → goodWord w = true → w.before args s = true := fun n w h g => hwA w (wA_mem h g)
  intro H locs ls hP hD hS hn hw hL hs hl
  exact lv_ddiv hx hb hd hy (kk H locs ls hP hD hS hn hw hL (wv_cons (fun _ e => by cases e) (wv_tail (wv_tail hs))) hl)
theorem o_f2d (hX : mCx X) {x : UInt32} (hy : vf_n64 (FP.f2d x)) (hd : decode (mby (mkk X)) pc = .ok (.f2d, 1)) (kk : mGo X cells slots ad L (.double (FP.f2d x) :: r) W9 (pc + 1)) : mGo X cells slots ad L (.float x :: r) W9 pc := by
  obtain ⟨p, l, e, R, s, m, args, below, meth, c, Q, A, dC, dI, dA, adR, RO, k⟩ := X
  obtain ⟨hx, hb, hml, hown, hwA, hA, hK, hRO, hROA, hlk, hrt, hfr, hlo, hini⟩ := hX
  have hwd : ∀ (n : Nat) (w : Cond), wat n = some w → goodWord w = true → w.before args s = true := fun n w h g => hwA w (wA_mem h g)
  intro H locs ls hP hD hS hn hw hL hs hl
  exact lv_f2d hx hb hd hy (kk H locs ls hP hD hS hn hw hL (wv_cons (fun _ e => by cases e) (wv_tail hs)) hl)
end OPS
end
section
/-! the words of the classes; what cells hold, read and written -/
def uns (ci : Nat) : List Nat := (bif Nat.blt ci 5 then (bif Nat.blt ci 2 then (bif Nat.blt ci 1 then (bif Nat.beq ci 0 then [4123, 4125, 4127, 4129] else []) else (bif Nat.beq ci 1 then [3028, 3030, 3032, 3034] else [])) else (bif Nat.blt ci 3 then (bif Nat.beq ci 2 then [4161, 4162, 4163, 4164, 4165, 4176] else []) else (bif Nat.blt ci 4 then (bif Nat.beq ci 3 then [4136, 4137, 4138, 4139, 4140, 4141] else []) else (bif Nat.beq ci 4 then [2239, 3001, 3003] else [])))) else (bif Nat.blt ci 7 then (bif Nat.blt ci 6 then (bif Nat.beq ci 5 then [1118, 1120, 1122, 1124, 1126, 1128, 1130, 1132, 1134, 1136, 1138] else []) else (bif Nat.beq ci 6 then [1060, 1062, 1064] else [])) else (bif Nat.blt ci 8 then (bif Nat.beq ci 7 then [1088, 1090, 1092, 1094, 1096, 1098, 1100] else []) else (bif Nat.blt ci 9 then (bif Nat.beq ci 8 then [3046, 3048, 3050, 3052, 3054, 3056, 3058, 3060] else []) else (bif Nat.beq ci 9 then [6228, 6230, 6232, 6234, 6236, 6238, 7000, 7002, 7004, 7006, 7008, 7010, 7012, 7014, 7016, 7018, 7020, 7022, 7024, 7026, 7028, 7030, 7032, 7034, 7036] else [])))))
def uok (ci : Nat) : Bool := match vwCl[ci]? with
  | some (C, T, N) => Nat.beq (u_ws C T N).length (uns ci).length && ((u_ws C T N).zip (uns ci)).all (fun q => decide (wat q.2 = some q.1) && goodWord q.1)
  | none => false
theorem uok_all : ∀ ci ∈ [0, 1, 2, 3, 4, 5, 6, 7, 8, 9], uok ci = true := by decide +kernel
def tyf (ci : Nat) : Nat → FieldType := (bif Nat.blt ci 5 then (bif Nat.blt ci 2 then (bif Nat.blt ci 1 then (bif Nat.beq ci 0 then tyJ0 else tyX0) else (bif Nat.beq ci 1 then tyJ4 else tyX0)) else (bif Nat.blt ci 3 then (bif Nat.beq ci 2 then tyJx00060 else tyX0) else (bif Nat.blt ci 4 then (bif Nat.beq ci 3 then tyJx7c733 else tyX0) else (bif Nat.beq ci 4 then tyX0 else tyX0)))) else (bif Nat.blt ci 7 then (bif Nat.blt ci 6 then (bif Nat.beq ci 5 then tyX1 else tyX0) else (bif Nat.beq ci 6 then tyX2 else tyX0)) else (bif Nat.blt ci 8 then (bif Nat.beq ci 7 then tyX3 else tyX0) else (bif Nat.blt ci 9 then (bif Nat.beq ci 8 then tyX4 else tyX0) else (bif Nat.beq ci 9 then tyX5 else tyX0)))))
theorem tyf_ok : ∀ (ci : Nat) (C : String) (T : u_T) (N : Nat), vwCl[ci]? = some (C, T, N) → (∀ k, k < N → parseFieldDescriptor (T k).2.2.1 = some (tyf ci k)) ∧ ∀ a, a < N → ∀ b, b < N → a ≠ b → (T a).2.1 ≠ (T b).2.1 := by
  intro ci C T N h
  match ci, h with
  | 0, h => cases h; exact ⟨tyJ0_ok, nmJ0⟩
  | 1, h => cases h; exact ⟨tyJ4_ok, nmJ4⟩
  | 2, h => cases h; exact ⟨tyJx00060_ok, nmJx00060⟩
  | 3, h => cases h; exact ⟨tyJx7c733_ok, nmJx7c733⟩
  | 4, h => cases h; exact ⟨tyX0_ok, nmX0⟩
  | 5, h => cases h; exact ⟨tyX1_ok, nmX1⟩
  | 6, h => cases h; exact ⟨tyX2_ok, nmX2⟩
  | 7, h => cases h; exact ⟨tyX3_ok, nmX3⟩
  | 8, h => cases h; exact ⟨tyX4_ok, nmX4⟩
  | 9, h => cases h; exact ⟨tyX5_ok, nmX5⟩
  | j + 10, h => simp [vwCl] at h
theorem uok_at {ci : Nat} {C : String} {T : u_T} {N : Nat} (hu : uok ci = true) (hc : vwCl[ci]? = some (C, T, N)) {P : Cond → Prop} (hwd : ∀ (n : Nat) (w : Cond), wat n = some w → goodWord w = true → P w) : ∀ w ∈ u_ws C T N, P w := by
  intro w hw
  rw [uok, hc] at hu
  simp only [Bool.and_eq_true] at hu
  obtain ⟨h1, h2⟩ := hu
  obtain ⟨i, hi⟩ := List.getElem?_of_mem hw
  have h3 : i < (uns ci).length := by
    rw [← Nat.eq_of_beq_eq_true h1]
    exact (List.getElem?_eq_some_iff.mp hi).1
  have h4 := List.all_eq_true.mp h2 (w, (uns ci)[i]) (List.mem_of_getElem? (i := i) (by rw [List.getElem?_zip_eq_some]; exact ⟨hi, List.getElem?_eq_getElem h3⟩))
  simp only [Bool.and_eq_true, decide_eq_true_eq] at h4
  exact hwd _ _ h4.1 h4.2
theorem m_read {s : State} {A : Nat → Prop} {dC : Nat → ClassId} {dI : Nat → Nat → Nat} {dA : Nat → ClassId} {adR ad : Nat → Nat} {RO W9 : List mE} {H : Heap} {locs : List Loc} {q : Nat} {e : mE}
    (hRO : ∀ ad : Nat → Nat, va_P (dC, dI) vwCl (cwR dA (mz adR ad) adR RO) s.heap) (hROA : ∀ j, j < RO.length → adR j < s.heap.size ∧ ¬ A (adR j)) (hP : va_P (dC, dI) vwCl (cw dA (mz adR ad) ad W9) H) (hS : va_S A s.heap H locs) (hg : mget RO W9 q = some e) :
    ∃ (ws : va_W) (q0 : Nat), va_P (dC, dI) vwCl ws H ∧ ws[q0]? = some (mz adR ad q, czE dA (mz adR ad) e) := by
  unfold mget at hg
  cases hq : Nat.blt q 1000000 with
  | true =>
    rw [hq] at hg
    refine ⟨_, q, hP, ?_⟩
    rw [cw_at, show W9[q]? = some e from hg]
    simp [mz, hq]
  | false =>
    rw [hq] at hg
    have hat : ∀ j : Nat, (cwR dA (mz adR ad) adR RO)[j]? = (RO[j]?).map (fun e => (adR j, czE dA (mz adR ad) e)) := fun j => by rw [cwR, List.getElem?_mapIdx]
    refine ⟨cwR dA (mz adR ad) adR RO, q - 1000000, (hRO ad).kept (fun j y hj => ?_), ?_⟩
    · rw [hat] at hj
      cases hr : RO[j]? with
      | none => rw [hr] at hj; cases hj
      | some e2 =>
        rw [hr] at hj
        cases hj
        have h9 := hROA j (List.getElem?_eq_some_iff.mp hr).1
        exact hS.2.1 _ h9.1 h9.2
    · rw [hat, show RO[q - 1000000]? = some e from hg]
      simp [mz, hq]
theorem mget_lt {RO W9 : List mE} {q : Nat} (h : Nat.blt q 1000000 = true) : mget RO W9 q = W9[q]? := by rw [mget, h]; rfl
theorem tyL_at (dA : Nat → ClassId) : (tyL dA)[0]? = some (dA 0, .byte) ∧ (tyL dA)[1]? = some (dA 1, .int) ∧ (tyL dA)[2]? = some (dA 2, .boolean) ∧ (tyL dA)[3]? = some (dA 3, .object "MuleTrain$Train") ∧ (tyL dA)[4]? = some (dA 4, .long) ∧ (tyL dA)[5]? = some (dA 5, .double) := ⟨rfl, rfl, rfl, rfl, rfl, rfl⟩
theorem mz_lt {adR ad : Nat → Nat} {q : Nat} (h : Nat.blt q 1000000 = true) : mz adR ad q = ad q := by rw [mz, h]; rfl
theorem wfl_get {n : Nat} {ci : Nat} {fs : List Value} {k : Nat} {v : Value} (h : wE n (.inr (ci, fs))) (hv : fs[k]? = some v) : ∀ r, v = .ref r → r < n ∨ 1000000 ≤ r := wv_get (show wv n fs from h) hv
theorem mget_wE {RO W9 : List mE} {q : Nat} {e : mE} {n : Nat} (hw : wW n W9) (hr : ∀ e ∈ RO, wE 0 e) (hg : mget RO W9 q = some e) : wE n e := by
  unfold mget at hg
  cases hq : Nat.blt q 1000000 with
  | true => rw [hq] at hg; exact wW_get hw hg
  | false => rw [hq] at hg; exact wE_mono (Nat.zero_le n) (hr e (List.mem_of_getElem? (show RO[q - 1000000]? = some e from hg)))
section HEAP
variable {X : mX} {cells slots : Nat} {ad : Nat → Nat} {L r : List Value} {W9 : List mE} {pc : Nat}
theorem o_getfield (hX : mCx X) (hro : ∀ e ∈ mRO X, wE 0 e) {C : String} {T : u_T} {N ci kf index n q : Nat} {fs : List Value} {v : Value} (hc : vwCl[ci]? = some (C, T, N)) (hu : uok ci = true) (hk : kf < N) (hw1 : wat n = some (.fieldLink (mnm (mkk X)).cls index (T kf).1 (T kf).2.1 (T kf).2.2.1)) (hw2 : goodWord (.fieldLink (mnm (mkk X)).cls index (T kf).1 (T kf).2.1 (T kf).2.2.1) = true)
    (hg : mget (mRO X) W9 q = some (.inr (ci, fs))) (hv : fs[kf]? = some v) (hd : decode (mby (mkk X)) pc = .ok (.getfield index, 3)) (kk : mGo X cells slots ad L (v :: r) W9 (pc + 3)) : mGo X cells slots ad L (.ref q :: r) W9 pc := by
  obtain ⟨p, l, e, R, s, m, args, below, meth, c, Q, A, dC, dI, dA, adR, RO, k⟩ := X
  obtain ⟨hx, hb, hml, hown, hwA, hA, hK, hRO, hROA, hlk, hrt, hfr, hlo, hini⟩ := hX
  have hwd : ∀ (n : Nat) (w : Cond), wat n = some w → goodWord w = true → w.before args s = true := fun n w h g => hwA w (wA_mem h g)
  intro H locs ls hP hD hS hn hw hL hs hl
  obtain ⟨ws, q0, hP9, hat⟩ := m_read hRO hROA hP hS hg
  exact va_get (D := (dC, dI)) (cl := vwCl) (tys := tyL dA) hx hb (Ts := u_ws C T N) (uok_at hu hc hwd) (fun _ h => h) hown hK hP9 q0 hat hc kf hk (hwd _ _ hw1 hw2) (fun _ h => h) (v := cz (mz adR ad) v) (by rw [List.getElem?_map, hv]; rfl) hd (kk H locs ls hP hD hS hn hw hL (wv_cons (wfl_get (mget_wE hw hro hg) hv) (wv_tail hs)) hl)
theorem o_getfieldN (hX : mCx X) (hro : ∀ e ∈ mRO X, wE 0 e) {C host : String} {T : u_T} {N ci kf index n q : Nat} {fs : List Value} {v : Value} (hc : vwCl[ci]? = some (C, T, N)) (hu : uok ci = true) (hk : kf < N) (hw1 : wat n = some (.fieldLinkNest (mnm (mkk X)).cls index (T kf).1 (T kf).2.1 (T kf).2.2.1 host)) (hw2 : goodWord (.fieldLinkNest (mnm (mkk X)).cls index (T kf).1 (T kf).2.1 (T kf).2.2.1 host) = true)
    (hg : mget (mRO X) W9 q = some (.inr (ci, fs))) (hv : fs[kf]? = some v) (hd : decode (mby (mkk X)) pc = .ok (.getfield index, 3)) (kk : mGo X cells slots ad L (v :: r) W9 (pc + 3)) : mGo X cells slots ad L (.ref q :: r) W9 pc := by
  obtain ⟨p, l, e, R, s, m, args, below, meth, c, Q, A, dC, dI, dA, adR, RO, k⟩ := X
  obtain ⟨hx, hb, hml, hown, hwA, hA, hK, hRO, hROA, hlk, hrt, hfr, hlo, hini⟩ := hX
  have hwd : ∀ (n : Nat) (w : Cond), wat n = some w → goodWord w = true → w.before args s = true := fun n w h g => hwA w (wA_mem h g)
  intro H locs ls hP hD hS hn hw hL hs hl
  obtain ⟨ws, q0, hP9, hat⟩ := m_read hRO hROA hP hS hg
  exact va_getN (D := (dC, dI)) (cl := vwCl) (tys := tyL dA) hx hb (Ts := u_ws C T N) (uok_at hu hc hwd) (fun _ h => h) hown hK hP9 q0 hat hc kf hk (hwd _ _ hw1 hw2) (fun _ h => h) (v := cz (mz adR ad) v) (by rw [List.getElem?_map, hv]; rfl) hd (kk H locs ls hP hD hS hn hw hL (wv_cons (wfl_get (mget_wE hw hro hg) hv) (wv_tail hs)) hl)
theorem o_putfield (hX : mCx X) {C : String} {T : u_T} {N ci kf index n q : Nat} {fs : List Value} {v : Value} (hc : vwCl[ci]? = some (C, T, N)) (hu : uok ci = true) (hk : kf < N) (hfin : (T kf).2.2.2 = false) (hw1 : wat n = some (.fieldLink (mnm (mkk X)).cls index (T kf).1 (T kf).2.1 (T kf).2.2.1)) (hw2 : goodWord (.fieldLink (mnm (mkk X)).cls index (T kf).1 (T kf).2.1 (T kf).2.2.1) = true)
    (hq : Nat.blt q 1000000 = true) (hg : W9[q]? = some (.inr (ci, fs))) (hnw : ∀ z, narrow (tyf ci kf) (cz z v) = cz z v) (hft : ∀ z, fits (tyf ci kf) (cz z v) = true) (hlen : kf < fs.length) (hd : decode (mby (mkk X)) pc = .ok (.putfield index, 3)) (kk : mGo X cells slots ad L r (W9.set q (.inr (ci, fs.set kf v))) (pc + 3)) : mGo X cells slots ad L (v :: .ref q :: r) W9 pc := by
  obtain ⟨p, l, e, R, s, m, args, below, meth, c, Q, A, dC, dI, dA, adR, RO, k⟩ := X
  obtain ⟨hx, hb, hml, hown, hwA, hA, hK, hRO, hROA, hlk, hrt, hfr, hlo, hini⟩ := hX
  have hwd : ∀ (n : Nat) (w : Cond), wat n = some w → goodWord w = true → w.before args s = true := fun n w h g => hwA w (wA_mem h g)
  intro H locs ls hP hD hS hn hw hL hs hl
  have hlt := (List.getElem?_eq_some_iff.mp hg).1
  have hz : mz adR ad q = ad q := mz_lt hq
  show W p l e R s m args below meth c H locs cells slots Q (F0 m pc ls (cz (mz adR ad) v :: .ref (mz adR ad q) :: r.map (cz (mz adR ad))))
  rw [hz]
  refine va_put (D := (dC, dI)) (cl := vwCl) (tys := tyL dA) hx hb (Ts := u_ws C T N) (uok_at hu hc hwd) (fun _ h => h) (tyf ci) (tyf_ok ci C T N hc).1 (tyf_ok ci C T N hc).2 hown hK hP hD hS q (fs := fs.map (cz (mz adR ad))) (by rw [cw_at, hg]; rfl) hc kf hk (hwd _ _ hw1 hw2) (fun _ h => h) hfin ((tyf_ok ci C T N hc).1 kf hk) (hnw _) (hft _) (by rw [List.length_map]; exact hlen) hd (fun H1 locs1 hP1 hD1 hS1 => ?_)
  have he : (cw dA (mz adR ad) ad W9).set q (ad q, .inr (ci, (fs.map (cz (mz adR ad))).set kf (cz (mz adR ad) v))) = cw dA (mz adR ad) ad (W9.set q (.inr (ci, fs.set kf v))) := by
    rw [← cw_set]
    show _ = (cw dA (mz adR ad) ad W9).set q (ad q, .inr (ci, (fs.set kf v).map (cz (mz adR ad))))
    rw [List.map_set]
  rw [he] at hP1 hD1
  have hfs : wv W9.length fs := wW_get hw hg
  exact kk H1 locs1 ls hP1 hD1 hS1 (by rw [List.length_set]; exact hn) (by rw [List.length_set]; exact wW_set (show wv _ (fs.set kf v) from wv_set (hs _ List.mem_cons_self) hfs) hw) (by rw [List.length_set]; exact hL) (by rw [List.length_set]; exact wv_tail (wv_tail hs)) hl
theorem o_putfieldN (hX : mCx X) {C host : String} {T : u_T} {N ci kf index n q : Nat} {fs : List Value} {v : Value} (hc : vwCl[ci]? = some (C, T, N)) (hu : uok ci = true) (hk : kf < N) (hfin : (T kf).2.2.2 = false) (hw1 : wat n = some (.fieldLinkNest (mnm (mkk X)).cls index (T kf).1 (T kf).2.1 (T kf).2.2.1 host)) (hw2 : goodWord (.fieldLinkNest (mnm (mkk X)).cls index (T kf).1 (T kf).2.1 (T kf).2.2.1 host) = true)
    (hq : Nat.blt q 1000000 = true) (hg : W9[q]? = some (.inr (ci, fs))) (hnw : ∀ z, narrow (tyf ci kf) (cz z v) = cz z v) (hft : ∀ z, fits (tyf ci kf) (cz z v) = true) (hlen : kf < fs.length) (hd : decode (mby (mkk X)) pc = .ok (.putfield index, 3)) (kk : mGo X cells slots ad L r (W9.set q (.inr (ci, fs.set kf v))) (pc + 3)) : mGo X cells slots ad L (v :: .ref q :: r) W9 pc := by
  obtain ⟨p, l, e, R, s, m, args, below, meth, c, Q, A, dC, dI, dA, adR, RO, k⟩ := X
  obtain ⟨hx, hb, hml, hown, hwA, hA, hK, hRO, hROA, hlk, hrt, hfr, hlo, hini⟩ := hX
  have hwd : ∀ (n : Nat) (w : Cond), wat n = some w → goodWord w = true → w.before args s = true := fun n w h g => hwA w (wA_mem h g)
  intro H locs ls hP hD hS hn hw hL hs hl
  have hlt := (List.getElem?_eq_some_iff.mp hg).1
  have hz : mz adR ad q = ad q := mz_lt hq
  show W p l e R s m args below meth c H locs cells slots Q (F0 m pc ls (cz (mz adR ad) v :: .ref (mz adR ad q) :: r.map (cz (mz adR ad))))
  rw [hz]
  refine va_putN (D := (dC, dI)) (cl := vwCl) (tys := tyL dA) hx hb (Ts := u_ws C T N) (uok_at hu hc hwd) (fun _ h => h) (tyf ci) (tyf_ok ci C T N hc).1 (tyf_ok ci C T N hc).2 hown hK hP hD hS q (fs := fs.map (cz (mz adR ad))) (by rw [cw_at, hg]; rfl) hc kf hk (hwd _ _ hw1 hw2) (fun _ h => h) hfin ((tyf_ok ci C T N hc).1 kf hk) (hnw _) (hft _) (by rw [List.length_map]; exact hlen) hd (fun H1 locs1 hP1 hD1 hS1 => ?_)
  have he : (cw dA (mz adR ad) ad W9).set q (ad q, .inr (ci, (fs.map (cz (mz adR ad))).set kf (cz (mz adR ad) v))) = cw dA (mz adR ad) ad (W9.set q (.inr (ci, fs.set kf v))) := by
    rw [← cw_set]
    show _ = (cw dA (mz adR ad) ad W9).set q (ad q, .inr (ci, (fs.set kf v).map (cz (mz adR ad))))
    rw [List.map_set]
  rw [he] at hP1 hD1
  have hfs : wv W9.length fs := wW_get hw hg
  exact kk H1 locs1 ls hP1 hD1 hS1 (by rw [List.length_set]; exact hn) (by rw [List.length_set]; exact wW_set (show wv _ (fs.set kf v) from wv_set (hs _ List.mem_cons_self) hfs) hw) (by rw [List.length_set]; exact hL) (by rw [List.length_set]; exact wv_tail (wv_tail hs)) hl
theorem o_putfieldF (hX : mCx X) {C : String} {T : u_T} {N ci kf index n q : Nat} {fs : List Value} {v : Value} (hc : vwCl[ci]? = some (C, T, N)) (hu : uok ci = true) (hk : kf < N) (hfin : (T kf).2.2.2 = true) (hmi : mini (mkk X) = true) (hdecl : (T kf).1 = (mnm (mkk X)).cls) (hw1 : wat n = some (.fieldLink (mnm (mkk X)).cls index (T kf).1 (T kf).2.1 (T kf).2.2.1)) (hw2 : goodWord (.fieldLink (mnm (mkk X)).cls index (T kf).1 (T kf).2.1 (T kf).2.2.1) = true)
    (hq : Nat.blt q 1000000 = true) (hg : W9[q]? = some (.inr (ci, fs))) (hnw : ∀ z, narrow (tyf ci kf) (cz z v) = cz z v) (hft : ∀ z, fits (tyf ci kf) (cz z v) = true) (hlen : kf < fs.length) (hd : decode (mby (mkk X)) pc = .ok (.putfield index, 3)) (kk : mGo X cells slots ad L r (W9.set q (.inr (ci, fs.set kf v))) (pc + 3)) : mGo X cells slots ad L (v :: .ref q :: r) W9 pc := by
  obtain ⟨p, l, e, R, s, m, args, below, meth, c, Q, A, dC, dI, dA, adR, RO, k⟩ := X
  obtain ⟨hx, hb, hml, hown, hwA, hA, hK, hRO, hROA, hlk, hrt, hfr, hlo, hini⟩ := hX
  have hwd : ∀ (n : Nat) (w : Cond), wat n = some w → goodWord w = true → w.before args s = true := fun n w h g => hwA w (wA_mem h g)
  intro H locs ls hP hD hS hn hw hL hs hl
  have hlt := (List.getElem?_eq_some_iff.mp hg).1
  have hz : mz adR ad q = ad q := mz_lt hq
  show W p l e R s m args below meth c H locs cells slots Q (F0 m pc ls (cz (mz adR ad) v :: .ref (mz adR ad q) :: r.map (cz (mz adR ad))))
  rw [hz]
  refine va_putF (D := (dC, dI)) (cl := vwCl) (tys := tyL dA) hx hb (Ts := u_ws C T N) (uok_at hu hc hwd) (fun _ h => h) (tyf ci) (tyf_ok ci C T N hc).1 (tyf_ok ci C T N hc).2 hown hK hP hD hS q (fs := fs.map (cz (mz adR ad))) (by rw [cw_at, hg]; rfl) hc kf hk (hwd _ _ hw1 hw2) (fun _ h => h) hfin (hini hmi) hdecl ((tyf_ok ci C T N hc).1 kf hk) (hnw _) (hft _) (by rw [List.length_map]; exact hlen) hd (fun H1 locs1 hP1 hD1 hS1 => ?_)
  have he : (cw dA (mz adR ad) ad W9).set q (ad q, .inr (ci, (fs.map (cz (mz adR ad))).set kf (cz (mz adR ad) v))) = cw dA (mz adR ad) ad (W9.set q (.inr (ci, fs.set kf v))) := by
    rw [← cw_set]
    show _ = (cw dA (mz adR ad) ad W9).set q (ad q, .inr (ci, (fs.set kf v).map (cz (mz adR ad))))
    rw [List.map_set]
  rw [he] at hP1 hD1
  have hfs : wv W9.length fs := wW_get hw hg
  exact kk H1 locs1 ls hP1 hD1 hS1 (by rw [List.length_set]; exact hn) (by rw [List.length_set]; exact wW_set (show wv _ (fs.set kf v) from wv_set (hs _ List.mem_cons_self) hfs) hw) (by rw [List.length_set]; exact hL) (by rw [List.length_set]; exact wv_tail (wv_tail hs)) hl
theorem o_iald (hX : mCx X) {n q : Nat} {f : Nat → Int32} {i : Int32} (hg : mget (mRO X) W9 q = some (.inl (1, n, .inl f))) (hi : vp_in i n) (hd : decode (mby (mkk X)) pc = .ok (.iaload, 1)) (kk : mGo X cells slots ad L (.int (f i.toNatClampNeg) :: r) W9 (pc + 1)) : mGo X cells slots ad L (.int i :: .ref q :: r) W9 pc := by
  obtain ⟨p, l, e, R, s, m, args, below, meth, c, Q, A, dC, dI, dA, adR, RO, k⟩ := X
  obtain ⟨hx, hb, hml, hown, hwA, hA, hK, hRO, hROA, hlk, hrt, hfr, hlo, hini⟩ := hX
  have hwd : ∀ (n : Nat) (w : Cond), wat n = some w → goodWord w = true → w.before args s = true := fun n w h g => hwA w (wA_mem h g)
  intro H locs ls hP hD hS hn hw hL hs hl
  obtain ⟨ws, q0, hP9, hat⟩ := m_read hRO hROA hP hS hg
  exact va_iald (D := (dC, dI)) (cl := vwCl) (tys := tyL dA) hx hb hK hP9 q0 1 hat rfl hi hd (kk H locs ls hP hD hS hn hw hL (wv_cons (fun _ e => by cases e) (wv_tail (wv_tail hs))) hl)
theorem o_bald (hX : mCx X) {n q : Nat} {f : Nat → Int32} {i : Int32} (hg : mget (mRO X) W9 q = some (.inl (0, n, .inl f))) (hi : vp_in i n) (hd : decode (mby (mkk X)) pc = .ok (.baload, 1)) (kk : mGo X cells slots ad L (.int (f i.toNatClampNeg) :: r) W9 (pc + 1)) : mGo X cells slots ad L (.int i :: .ref q :: r) W9 pc := by
  obtain ⟨p, l, e, R, s, m, args, below, meth, c, Q, A, dC, dI, dA, adR, RO, k⟩ := X
  obtain ⟨hx, hb, hml, hown, hwA, hA, hK, hRO, hROA, hlk, hrt, hfr, hlo, hini⟩ := hX
  have hwd : ∀ (n : Nat) (w : Cond), wat n = some w → goodWord w = true → w.before args s = true := fun n w h g => hwA w (wA_mem h g)
  intro H locs ls hP hD hS hn hw hL hs hl
  obtain ⟨ws, q0, hP9, hat⟩ := m_read hRO hROA hP hS hg
  exact va_bald (D := (dC, dI)) (cl := vwCl) (tys := tyL dA) hx hb hK hP9 q0 0 hat rfl hi hd (kk H locs ls hP hD hS hn hw hL (wv_cons (fun _ e => by cases e) (wv_tail (wv_tail hs))) hl)
theorem o_zald (hX : mCx X) {n q : Nat} {f : Nat → Int32} {i : Int32} (hg : mget (mRO X) W9 q = some (.inl (2, n, .inl f))) (hi : vp_in i n) (hd : decode (mby (mkk X)) pc = .ok (.baload, 1)) (kk : mGo X cells slots ad L (.int (f i.toNatClampNeg) :: r) W9 (pc + 1)) : mGo X cells slots ad L (.int i :: .ref q :: r) W9 pc := by
  obtain ⟨p, l, e, R, s, m, args, below, meth, c, Q, A, dC, dI, dA, adR, RO, k⟩ := X
  obtain ⟨hx, hb, hml, hown, hwA, hA, hK, hRO, hROA, hlk, hrt, hfr, hlo, hini⟩ := hX
  have hwd : ∀ (n : Nat) (w : Cond), wat n = some w → goodWord w = true → w.before args s = true := fun n w h g => hwA w (wA_mem h g)
  intro H locs ls hP hD hS hn hw hL hs hl
  obtain ⟨ws, q0, hP9, hat⟩ := m_read hRO hROA hP hS hg
  exact va_zald (D := (dC, dI)) (cl := vwCl) (tys := tyL dA) hx hb hK hP9 q0 2 hat rfl hi hd (kk H locs ls hP hD hS hn hw hL (wv_cons (fun _ e => by cases e) (wv_tail (wv_tail hs))) hl)
theorem o_lald (hX : mCx X) {n q : Nat} {f : Nat → Int64} {i : Int32} (hg : mget (mRO X) W9 q = some (.inl (4, n, .inr (.inl f)))) (hi : vp_in i n) (hd : decode (mby (mkk X)) pc = .ok (.laload, 1)) (kk : mGo X cells slots ad L (.long (f i.toNatClampNeg) :: r) W9 (pc + 1)) : mGo X cells slots ad L (.int i :: .ref q :: r) W9 pc := by
  obtain ⟨p, l, e, R, s, m, args, below, meth, c, Q, A, dC, dI, dA, adR, RO, k⟩ := X
  obtain ⟨hx, hb, hml, hown, hwA, hA, hK, hRO, hROA, hlk, hrt, hfr, hlo, hini⟩ := hX
  have hwd : ∀ (n : Nat) (w : Cond), wat n = some w → goodWord w = true → w.before args s = true := fun n w h g => hwA w (wA_mem h g)
  intro H locs ls hP hD hS hn hw hL hs hl
  obtain ⟨ws, q0, hP9, hat⟩ := m_read hRO hROA hP hS hg
  exact va_lald (D := (dC, dI)) (cl := vwCl) (tys := tyL dA) hx hb hK hP9 q0 4 hat rfl hi hd (kk H locs ls hP hD hS hn hw hL (wv_cons (fun _ e => by cases e) (wv_tail (wv_tail hs))) hl)
theorem o_dald (hX : mCx X) {n q : Nat} {f : Nat → UInt64} {i : Int32} (hg : mget (mRO X) W9 q = some (.inl (5, n, .inr (.inr (.inr (.inl f)))))) (hi : vp_in i n) (hd : decode (mby (mkk X)) pc = .ok (.daload, 1)) (kk : mGo X cells slots ad L (.double (f i.toNatClampNeg) :: r) W9 (pc + 1)) : mGo X cells slots ad L (.int i :: .ref q :: r) W9 pc := by
  obtain ⟨p, l, e, R, s, m, args, below, meth, c, Q, A, dC, dI, dA, adR, RO, k⟩ := X
  obtain ⟨hx, hb, hml, hown, hwA, hA, hK, hRO, hROA, hlk, hrt, hfr, hlo, hini⟩ := hX
  have hwd : ∀ (n : Nat) (w : Cond), wat n = some w → goodWord w = true → w.before args s = true := fun n w h g => hwA w (wA_mem h g)
  intro H locs ls hP hD hS hn hw hL hs hl
  obtain ⟨ws, q0, hP9, hat⟩ := m_read hRO hROA hP hS hg
  exact va_dald (D := (dC, dI)) (cl := vwCl) (tys := tyL dA) hx hb hK hP9 q0 5 hat rfl hi hd (kk H locs ls hP hD hS hn hw hL (wv_cons (fun _ e => by cases e) (wv_tail (wv_tail hs))) hl)
theorem o_iast (hX : mCx X) {n q : Nat} {f : Nat → Int32} {i : Int32} {x : Int32} (hq : Nat.blt q 1000000 = true) (hg : W9[q]? = some (.inl (1, n, .inl f))) (hi : vp_in i n) (hd : decode (mby (mkk X)) pc = .ok (.iastore, 1)) (kk : mGo X cells slots ad L r (W9.set q (.inl (1, n, .inl (upd f i.toNatClampNeg x)))) (pc + 1)) : mGo X cells slots ad L (.int x :: .int i :: .ref q :: r) W9 pc := by
  obtain ⟨p, l, e, R, s, m, args, below, meth, c, Q, A, dC, dI, dA, adR, RO, k⟩ := X
  obtain ⟨hx, hb, hml, hown, hwA, hA, hK, hRO, hROA, hlk, hrt, hfr, hlo, hini⟩ := hX
  have hwd : ∀ (n : Nat) (w : Cond), wat n = some w → goodWord w = true → w.before args s = true := fun n w h g => hwA w (wA_mem h g)
  intro H locs ls hP hD hS hn hw hL hs hl
  have hz : mz adR ad q = ad q := mz_lt hq
  show W p l e R s m args below meth c H locs cells slots Q (F0 m pc ls (.int x :: .int i :: .ref (mz adR ad q) :: r.map (cz (mz adR ad))))
  rw [hz]
  refine va_iast (D := (dC, dI)) (cl := vwCl) (tys := tyL dA) hx hb hK hP hD hS q 1 (cA := dA 1) (n := n) (f := f) (by rw [cw_at, hg]; rfl) rfl hi hd (fun H1 locs1 hP1 hD1 hS1 => ?_)
  have he := cw_set dA (mz adR ad) ad W9 q (.inl (1, n, .inl (upd f i.toNatClampNeg x)))
  have hP2 : va_P (dC, dI) vwCl ((cw dA (mz adR ad) ad W9).set q (ad q, czE dA (mz adR ad) (.inl (1, n, .inl (upd f i.toNatClampNeg x))))) H1 := hP1
  have hD2 : va_D A ((cw dA (mz adR ad) ad W9).set q (ad q, czE dA (mz adR ad) (.inl (1, n, .inl (upd f i.toNatClampNeg x))))) := hD1
  rw [he] at hP2 hD2
  exact kk H1 locs1 ls hP2 hD2 hS1 (by rw [List.length_set]; exact hn) (by rw [List.length_set]; exact wW_set trivial hw) (by rw [List.length_set]; exact hL) (by rw [List.length_set]; exact wv_tail (wv_tail (wv_tail hs))) hl
theorem o_bast (hX : mCx X) {n q : Nat} {f : Nat → Int32} {i : Int32} {x : Int32} (hq : Nat.blt q 1000000 = true) (hg : W9[q]? = some (.inl (0, n, .inl f))) (hi : vp_in i n) (hd : decode (mby (mkk X)) pc = .ok (.bastore, 1)) (kk : mGo X cells slots ad L r (W9.set q (.inl (0, n, .inl (upd f i.toNatClampNeg (vp_nar .byte x))))) (pc + 1)) : mGo X cells slots ad L (.int x :: .int i :: .ref q :: r) W9 pc := by
  obtain ⟨p, l, e, R, s, m, args, below, meth, c, Q, A, dC, dI, dA, adR, RO, k⟩ := X
  obtain ⟨hx, hb, hml, hown, hwA, hA, hK, hRO, hROA, hlk, hrt, hfr, hlo, hini⟩ := hX
  have hwd : ∀ (n : Nat) (w : Cond), wat n = some w → goodWord w = true → w.before args s = true := fun n w h g => hwA w (wA_mem h g)
  intro H locs ls hP hD hS hn hw hL hs hl
  have hz : mz adR ad q = ad q := mz_lt hq
  show W p l e R s m args below meth c H locs cells slots Q (F0 m pc ls (.int x :: .int i :: .ref (mz adR ad q) :: r.map (cz (mz adR ad))))
  rw [hz]
  refine va_bast (D := (dC, dI)) (cl := vwCl) (tys := tyL dA) hx hb hK hP hD hS q 0 (cA := dA 0) (n := n) (f := f) (by rw [cw_at, hg]; rfl) rfl hi hd (fun H1 locs1 hP1 hD1 hS1 => ?_)
  have he := cw_set dA (mz adR ad) ad W9 q (.inl (0, n, .inl (upd f i.toNatClampNeg (vp_nar .byte x))))
  have hP2 : va_P (dC, dI) vwCl ((cw dA (mz adR ad) ad W9).set q (ad q, czE dA (mz adR ad) (.inl (0, n, .inl (upd f i.toNatClampNeg (vp_nar .byte x)))))) H1 := hP1
  have hD2 : va_D A ((cw dA (mz adR ad) ad W9).set q (ad q, czE dA (mz adR ad) (.inl (0, n, .inl (upd f i.toNatClampNeg (vp_nar .byte x)))))) := hD1
  rw [he] at hP2 hD2
  exact kk H1 locs1 ls hP2 hD2 hS1 (by rw [List.length_set]; exact hn) (by rw [List.length_set]; exact wW_set trivial hw) (by rw [List.length_set]; exact hL) (by rw [List.length_set]; exact wv_tail (wv_tail (wv_tail hs))) hl
theorem o_zast (hX : mCx X) {n q : Nat} {f : Nat → Int32} {i : Int32} {x : Int32} (hq : Nat.blt q 1000000 = true) (hg : W9[q]? = some (.inl (2, n, .inl f))) (hi : vp_in i n) (hd : decode (mby (mkk X)) pc = .ok (.bastore, 1)) (kk : mGo X cells slots ad L r (W9.set q (.inl (2, n, .inl (upd f i.toNatClampNeg (vp_nar .boolean x))))) (pc + 1)) : mGo X cells slots ad L (.int x :: .int i :: .ref q :: r) W9 pc := by
  obtain ⟨p, l, e, R, s, m, args, below, meth, c, Q, A, dC, dI, dA, adR, RO, k⟩ := X
  obtain ⟨hx, hb, hml, hown, hwA, hA, hK, hRO, hROA, hlk, hrt, hfr, hlo, hini⟩ := hX
  have hwd : ∀ (n : Nat) (w : Cond), wat n = some w → goodWord w = true → w.before args s = true := fun n w h g => hwA w (wA_mem h g)
  intro H locs ls hP hD hS hn hw hL hs hl
  have hz : mz adR ad q = ad q := mz_lt hq
  show W p l e R s m args below meth c H locs cells slots Q (F0 m pc ls (.int x :: .int i :: .ref (mz adR ad q) :: r.map (cz (mz adR ad))))
  rw [hz]
  refine va_zast (D := (dC, dI)) (cl := vwCl) (tys := tyL dA) hx hb hK hP hD hS q 2 (cA := dA 2) (n := n) (f := f) (by rw [cw_at, hg]; rfl) rfl hi hd (fun H1 locs1 hP1 hD1 hS1 => ?_)
  have he := cw_set dA (mz adR ad) ad W9 q (.inl (2, n, .inl (upd f i.toNatClampNeg (vp_nar .boolean x))))
  have hP2 : va_P (dC, dI) vwCl ((cw dA (mz adR ad) ad W9).set q (ad q, czE dA (mz adR ad) (.inl (2, n, .inl (upd f i.toNatClampNeg (vp_nar .boolean x)))))) H1 := hP1
  have hD2 : va_D A ((cw dA (mz adR ad) ad W9).set q (ad q, czE dA (mz adR ad) (.inl (2, n, .inl (upd f i.toNatClampNeg (vp_nar .boolean x)))))) := hD1
  rw [he] at hP2 hD2
  exact kk H1 locs1 ls hP2 hD2 hS1 (by rw [List.length_set]; exact hn) (by rw [List.length_set]; exact wW_set trivial hw) (by rw [List.length_set]; exact hL) (by rw [List.length_set]; exact wv_tail (wv_tail (wv_tail hs))) hl
theorem o_last (hX : mCx X) {n q : Nat} {f : Nat → Int64} {i : Int32} {x : Int64} (hq : Nat.blt q 1000000 = true) (hg : W9[q]? = some (.inl (4, n, .inr (.inl f)))) (hi : vp_in i n) (hd : decode (mby (mkk X)) pc = .ok (.lastore, 1)) (kk : mGo X cells slots ad L r (W9.set q (.inl (4, n, .inr (.inl (vp_updL f i.toNatClampNeg x))))) (pc + 1)) : mGo X cells slots ad L (.long x :: .int i :: .ref q :: r) W9 pc := by
  obtain ⟨p, l, e, R, s, m, args, below, meth, c, Q, A, dC, dI, dA, adR, RO, k⟩ := X
  obtain ⟨hx, hb, hml, hown, hwA, hA, hK, hRO, hROA, hlk, hrt, hfr, hlo, hini⟩ := hX
  have hwd : ∀ (n : Nat) (w : Cond), wat n = some w → goodWord w = true → w.before args s = true := fun n w h g => hwA w (wA_mem h g)
  intro H locs ls hP hD hS hn hw hL hs hl
  have hz : mz adR ad q = ad q := mz_lt hq
  show W p l e R s m args below meth c H locs cells slots Q (F0 m pc ls (.long x :: .int i :: .ref (mz adR ad q) :: r.map (cz (mz adR ad))))
  rw [hz]
  refine va_last (D := (dC, dI)) (cl := vwCl) (tys := tyL dA) hx hb hK hP hD hS q 4 (cA := dA 4) (n := n) (f := f) (by rw [cw_at, hg]; rfl) rfl hi hd (fun H1 locs1 hP1 hD1 hS1 => ?_)
  have he := cw_set dA (mz adR ad) ad W9 q (.inl (4, n, .inr (.inl (vp_updL f i.toNatClampNeg x))))
  have hP2 : va_P (dC, dI) vwCl ((cw dA (mz adR ad) ad W9).set q (ad q, czE dA (mz adR ad) (.inl (4, n, .inr (.inl (vp_updL f i.toNatClampNeg x)))))) H1 := hP1
  have hD2 : va_D A ((cw dA (mz adR ad) ad W9).set q (ad q, czE dA (mz adR ad) (.inl (4, n, .inr (.inl (vp_updL f i.toNatClampNeg x)))))) := hD1
  rw [he] at hP2 hD2
  exact kk H1 locs1 ls hP2 hD2 hS1 (by rw [List.length_set]; exact hn) (by rw [List.length_set]; exact wW_set trivial hw) (by rw [List.length_set]; exact hL) (by rw [List.length_set]; exact wv_tail (wv_tail (wv_tail hs))) hl
theorem o_dast (hX : mCx X) {n q : Nat} {f : Nat → UInt64} {i : Int32} {x : UInt64} (hq : Nat.blt q 1000000 = true) (hg : W9[q]? = some (.inl (5, n, .inr (.inr (.inr (.inl f)))))) (hi : vp_in i n) (hd : decode (mby (mkk X)) pc = .ok (.dastore, 1)) (kk : mGo X cells slots ad L r (W9.set q (.inl (5, n, .inr (.inr (.inr (.inl (vf_upd f i.toNatClampNeg x))))))) (pc + 1)) : mGo X cells slots ad L (.double x :: .int i :: .ref q :: r) W9 pc := by
  obtain ⟨p, l, e, R, s, m, args, below, meth, c, Q, A, dC, dI, dA, adR, RO, k⟩ := X
  obtain ⟨hx, hb, hml, hown, hwA, hA, hK, hRO, hROA, hlk, hrt, hfr, hlo, hini⟩ := hX
  have hwd : ∀ (n : Nat) (w : Cond), wat n = some w → goodWord w = true → w.before args s = true := fun n w h g => hwA w (wA_mem h g)
  intro H locs ls hP hD hS hn hw hL hs hl
  have hz : mz adR ad q = ad q := mz_lt hq
  show W p l e R s m args below meth c H locs cells slots Q (F0 m pc ls (.double x :: .int i :: .ref (mz adR ad q) :: r.map (cz (mz adR ad))))
  rw [hz]
  refine va_dast (D := (dC, dI)) (cl := vwCl) (tys := tyL dA) hx hb hK hP hD hS q 5 (cA := dA 5) (n := n) (f := f) (by rw [cw_at, hg]; rfl) rfl hi hd (fun H1 locs1 hP1 hD1 hS1 => ?_)
  have he := cw_set dA (mz adR ad) ad W9 q (.inl (5, n, .inr (.inr (.inr (.inl (vf_upd f i.toNatClampNeg x))))))
  have hP2 : va_P (dC, dI) vwCl ((cw dA (mz adR ad) ad W9).set q (ad q, czE dA (mz adR ad) (.inl (5, n, .inr (.inr (.inr (.inl (vf_upd f i.toNatClampNeg x)))))))) H1 := hP1
  have hD2 : va_D A ((cw dA (mz adR ad) ad W9).set q (ad q, czE dA (mz adR ad) (.inl (5, n, .inr (.inr (.inr (.inl (vf_upd f i.toNatClampNeg x)))))))) := hD1
  rw [he] at hP2 hD2
  exact kk H1 locs1 ls hP2 hD2 hS1 (by rw [List.length_set]; exact hn) (by rw [List.length_set]; exact wW_set trivial hw) (by rw [List.length_set]; exact hL) (by rw [List.length_set]; exact wv_tail (wv_tail (wv_tail hs))) hl
theorem o_alen (hX : mCx X) {t n q : Nat} {a : (Nat → Int32) ⊕ (Nat → Int64) ⊕ (Nat → UInt32) ⊕ (Nat → UInt64) ⊕ (Nat → Option Nat)} (ht : t < 6) (hg : mget (mRO X) W9 q = some (.inl (t, n, a))) (hd : decode (mby (mkk X)) pc = .ok (.arraylength, 1)) (kk : mGo X cells slots ad L (.int (Int32.ofNat n) :: r) W9 (pc + 1)) : mGo X cells slots ad L (.ref q :: r) W9 pc := by
  obtain ⟨p, l, e, R, s, m, args, below, meth, c, Q, A, dC, dI, dA, adR, RO, k⟩ := X
  obtain ⟨hx, hb, hml, hown, hwA, hA, hK, hRO, hROA, hlk, hrt, hfr, hlo, hini⟩ := hX
  have hwd : ∀ (n : Nat) (w : Cond), wat n = some w → goodWord w = true → w.before args s = true := fun n w h g => hwA w (wA_mem h g)
  intro H locs ls hP hD hS hn hw hL hs hl
  obtain ⟨ws, q0, hP9, hat⟩ := m_read hRO hROA hP hS hg
  obtain ⟨ty, hty⟩ : ∃ ty, (tyL dA)[t]? = some (dA t, ty) := by
    match t, ht with
    | 0, _ => exact ⟨_, rfl⟩
    | 1, _ => exact ⟨_, rfl⟩
    | 2, _ => exact ⟨_, rfl⟩
    | 3, _ => exact ⟨_, rfl⟩
    | 4, _ => exact ⟨_, rfl⟩
    | 5, _ => exact ⟨_, rfl⟩
  exact va_alen (D := (dC, dI)) (cl := vwCl) (tys := tyL dA) hx hb hK hP9 q0 t (x := czA (mz adR ad) (n, a)) hat hty rfl hd (kk H locs ls hP hD hS hn hw hL (wv_int (wv_tail hs)) hl)
theorem cz_rf (z : Nat → Nat) (o9 : Option Nat) : cz z (va_rf o9) = va_rf (o9.map z) := by cases o9 <;> rfl
theorem o_aald (hX : mCx X) (hro : ∀ e ∈ mRO X, wE 0 e) {n q : Nat} {f : Nat → Option Nat} {i : Int32} (hg : mget (mRO X) W9 q = some (.inl (3, n, .inr (.inr (.inr (.inr f)))))) (hi : vp_in i n) (hd : decode (mby (mkk X)) pc = .ok (.aaload, 1)) (kk : mGo X cells slots ad L (va_rf (f i.toNatClampNeg) :: r) W9 (pc + 1)) : mGo X cells slots ad L (.int i :: .ref q :: r) W9 pc := by
  obtain ⟨p, l, e, R, s, m, args, below, meth, c, Q, A, dC, dI, dA, adR, RO, k⟩ := X
  obtain ⟨hx, hb, hml, hown, hwA, hA, hK, hRO, hROA, hlk, hrt, hfr, hlo, hini⟩ := hX
  have hwd : ∀ (n : Nat) (w : Cond), wat n = some w → goodWord w = true → w.before args s = true := fun n w h g => hwA w (wA_mem h g)
  intro H locs ls hP hD hS hn hw hL hs hl
  obtain ⟨ws, q0, hP9, hat⟩ := m_read hRO hROA hP hS hg
  have hwe : wE W9.length (.inl (3, n, .inr (.inr (.inr (.inr f))))) := mget_wE hw hro hg
  have k9 := kk H locs ls hP hD hS hn hw hL (wv_cons (fun r9 e9 => by
    cases hf : f i.toNatClampNeg with
    | none => rw [hf] at e9; cases e9
    | some y =>
      rw [hf] at e9
      cases e9
      exact (show ∀ i r, f i = some r → r < W9.length ∨ 1000000 ≤ r from hwe) _ _ hf) (wv_tail (wv_tail hs))) hl
  rw [List.map_cons, cz_rf] at k9
  exact va_aldq (D := (dC, dI)) (cl := vwCl) (tys := tyL dA) hx hb hK hP9 q0 3 hat rfl hi hd k9
theorem o_aast (hX : mCx X) {n q v : Nat} {f : Nat → Option Nat} {i : Int32} {vs : List Value} (hq : Nat.blt q 1000000 = true) (hv : Nat.blt v 1000000 = true) (hg : W9[q]? = some (.inl (3, n, .inr (.inr (.inr (.inr f)))))) (hgv : W9[v]? = some (.inr (7, vs))) (hi : vp_in i n) (hd : decode (mby (mkk X)) pc = .ok (.aastore, 1)) (kk : mGo X cells slots ad L r (W9.set q (.inl (3, n, .inr (.inr (.inr (.inr (va_up f i.toNatClampNeg (some v)))))))) (pc + 1)) : mGo X cells slots ad L (.ref v :: .int i :: .ref q :: r) W9 pc := by
  obtain ⟨p, l, e, R, s, m, args, below, meth, c, Q, A, dC, dI, dA, adR, RO, k⟩ := X
  obtain ⟨hx, hb, hml, hown, hwA, hA, hK, hRO, hROA, hlk, hrt, hfr, hlo, hini⟩ := hX
  have hwd : ∀ (n : Nat) (w : Cond), wat n = some w → goodWord w = true → w.before args s = true := fun n w h g => hwA w (wA_mem h g)
  intro H locs ls hP hD hS hn hw hL hs hl
  have hz : mz adR ad q = ad q := mz_lt hq
  have hzv : mz adR ad v = ad v := mz_lt hv
  show W p l e R s m args below meth c H locs cells slots Q (F0 m pc ls (.ref (mz adR ad v) :: .int i :: .ref (mz adR ad q) :: r.map (cz (mz adR ad))))
  rw [hz, hzv]
  refine va_astq (D := (dC, dI)) (cl := vwCl) (tys := tyL dA) hx hb hK hP hD hS q 3 v 7 (cA := dA 3) (r := (RX3, TX3, 7)) (n := n) (v := ad v) (vs := vs.map (cz (mz adR ad))) (f := fun i => (f i).map (mz adR ad)) (by rw [cw_at, hg]; rfl) rfl (by rw [cw_at, hgv]; rfl) rfl hi hd (fun H1 locs1 hP1 hD1 hS1 => ?_)
  have he := cw_set dA (mz adR ad) ad W9 q (.inl (3, n, .inr (.inr (.inr (.inr (va_up f i.toNatClampNeg (some v)))))))
  have hf : (fun j => (va_up f i.toNatClampNeg (some v) j).map (mz adR ad)) = va_up (fun i => (f i).map (mz adR ad)) i.toNatClampNeg (some (ad v)) := by
    funext j
    by_cases hj : j = i.toNatClampNeg
    · simp [va_up, hj, hzv]
    · simp [va_up, hj]
  have hce : czE dA (mz adR ad) (.inl (3, n, .inr (.inr (.inr (.inr (va_up f i.toNatClampNeg (some v))))))) = .inl (dA 3, (n, .inr (.inr (.inr (.inr (va_up (fun i => (f i).map (mz adR ad)) i.toNatClampNeg (some (ad v)))))))) := by
    rw [← hf]; rfl
  rw [hce] at he
  rw [he] at hP1 hD1
  have hfw : ∀ i r, f i = some r → r < W9.length ∨ 1000000 ≤ r := wW_get hw hg
  have hvl := (List.getElem?_eq_some_iff.mp hgv).1
  exact kk H1 locs1 ls hP1 hD1 hS1 (by rw [List.length_set]; exact hn) (by
    rw [List.length_set]
    refine wW_set (show ∀ j r, va_up f i.toNatClampNeg (some v) j = some r → r < W9.length ∨ 1000000 ≤ r from fun j r9 h9 => ?_) hw
    by_cases hj : j = i.toNatClampNeg
    · simp [va_up, hj] at h9
      exact Or.inl (by omega)
    · simp [va_up, hj] at h9
      exact hfw j r9 h9) (by rw [List.length_set]; exact hL) (by rw [List.length_set]; exact wv_tail (wv_tail (wv_tail hs))) hl
end HEAP
end
section
def mRm (X : mX) : Room := X.2.2.2.1
theorem lz_eq {n : Nat} (hn : n ≤ 1000000) {adR ad ad' : Nat → Nat} (h : ∀ j, j < n → ad' j = ad j) {ls : Array Slot} {nL : Nat} {L : List Value} (hL : wv n L) (hl : lz (mz adR ad) ls nL L) : lz (mz adR ad') ls nL L :=
  ⟨hl.1, hl.2.1, fun i v hv hr => by rw [cz_eq hn h (wv_get hL hv)]; exact hl.2.2 i v hv hr⟩
theorem mz_self {adR ad : Nat → Nat} {n q : Nat} (hn : n < 1000000) : mz adR (fun j => if j = n then q else ad j) n = q := by
  have : Nat.blt n 1000000 = true := Nat.ble_eq_true_of_le hn
  rw [mz, this]; simp
def mcs (r : List Value) : Bool := Nat.ble ((r.map fun v => v.category).sum) 8
section ALLOC
variable {X : mX} {cells slots : Nat} {ad : Nat → Nat} {L r : List Value} {W9 : List mE} {pc : Nat}
/-- a new cell at the world's end -/
theorem m_born {X : mX} {cells slots : Nat} {ad : Nat → Nat} {L r : List Value} {W9 : List mE} {pc : Nat} {e0 : mE} (hlen : W9.length < 1000000) (hwe : wE 0 e0) (kk : ∀ ad' : Nat → Nat, (∀ j, j < W9.length → ad' j = ad j) → mGo X cells slots ad' L (.ref W9.length :: r) (W9 ++ [e0]) pc) :
    match X with
    | (p, l, e, R, s, m, args, below, meth, c, Q, A, dC, dI, dA, adR, RO, k) => ∀ (H : Heap) (locs : List Loc) (ls : Array Slot) (q : Nat), (∀ z, czE dA z e0 = czE dA (mz adR ad) e0) → va_P (dC, dI) vwCl (cw dA (mz adR ad) ad W9 ++ [(q, czE dA (mz adR ad) e0)]) H → va_D A (cw dA (mz adR ad) ad W9 ++ [(q, czE dA (mz adR ad) e0)]) → va_S A s.heap H locs → wW W9.length W9 → wv W9.length L → wv W9.length r → lz (mz adR ad) ls (mml k) L →
      W p l e R s m args below meth c H locs cells slots Q (F0 m pc ls (.ref q :: r.map (cz (mz adR ad)))) := by
  obtain ⟨p, l, e, R, s, m, args, below, meth, c, Q, A, dC, dI, dA, adR, RO, k⟩ := X
  intro H locs ls q hez hP hD hS hw hL hr hl
  have hag : ∀ j, j < W9.length → (fun j => if j = W9.length then q else ad j) j = ad j := fun j hj => if_neg (by omega)
  have k1 := kk (fun j => if j = W9.length then q else ad j) hag H locs ls
  have e1 : cw dA (mz adR (fun j => if j = W9.length then q else ad j)) (fun j => if j = W9.length then q else ad j) (W9 ++ [e0]) = cw dA (mz adR ad) ad W9 ++ [(q, czE dA (mz adR ad) e0)] := by
    rw [cw_push, cw_eq (Nat.le_of_lt hlen) hag hw, hez, if_pos rfl]
  rw [e1] at k1
  have hl2 : (W9 ++ [e0]).length = W9.length + 1 := by simp
  have k2 := k1 hP hD hS (by rw [hl2]; omega) (by
    rw [hl2]
    intro x hx
    rcases List.mem_append.mp hx with h | h
    · exact wE_mono (Nat.le_succ _) (hw x h)
    · rw [List.mem_singleton.mp h]; exact wE_mono (Nat.zero_le _) hwe) (by rw [hl2]; exact wv_mono (Nat.le_succ _) hL) (by
    rw [hl2]
    exact wv_cons (fun r9 h9 => by cases h9; exact Or.inl (Nat.lt_succ_self _)) (wv_mono (Nat.le_succ _) hr)) (lz_eq (Nat.le_of_lt hlen) hag hL hl)
  have e2 : (Value.ref W9.length :: r).map (cz (mz adR (fun j => if j = W9.length then q else ad j))) = .ref q :: r.map (cz (mz adR ad)) := by
    rw [List.map_cons, czs_eq (Nat.le_of_lt hlen) hag hr]
    show Value.ref (mz adR (fun j => if j = W9.length then q else ad j) W9.length) :: _ = _
    rw [mz_self hlen]
  rw [e2] at k2
  exact k2
theorem o_new (hX : mCx X) {C : String} {T : u_T} {N ci index n1 n2 n3 : Nat} {fs : List Value} (hc : vwCl[ci]? = some (C, T, N)) (hu : uok ci = true) (hw1 : wat n1 = some (.classLink (mnm (mkk X)).cls index C)) (hg1 : goodWord (.classLink (mnm (mkk X)).cls index C) = true) (hw2 : wat n2 = some (.instantiable C N)) (hg2 : goodWord (.instantiable C N) = true) (hw3 : wat n3 = some (.initialized C)) (hg3 : goodWord (.initialized C) = true)
    (hfs : ∀ j, j < N → defaultValue (tyf ci j) = vp_V fs j) (hnz : ∀ z, fs.map (cz z) = fs) (hfw : wv 0 fs) (hcells : cells + 1 ≤ (mRm X).cells) (hslots : slots + N ≤ (mRm X).slots) (hlen : W9.length < 1000000) (hd : decode (mby (mkk X)) pc = .ok (.new index, 3))
    (kk : ∀ ad' : Nat → Nat, (∀ j, j < W9.length → ad' j = ad j) → mGo X (cells + 1) (slots + N) ad' L (.ref W9.length :: r) (W9 ++ [.inr (ci, fs)]) (pc + 3)) : mGo X cells slots ad L r W9 pc := by
  have hb9 := m_born (X := X) hlen (show wE 0 (.inr (ci, fs)) from hfw) kk
  obtain ⟨p, l, e, R, s, m, args, below, meth, c, Q, A, dC, dI, dA, adR, RO, k⟩ := X
  obtain ⟨hx, hb, hml, hown, hwA, hA, hK, hRO, hROA, hlk, hrt, hfr, hlo, hini⟩ := hX
  have hwd : ∀ (n : Nat) (w : Cond), wat n = some w → goodWord w = true → w.before args s = true := fun n w h g => hwA w (wA_mem h g)
  intro H locs ls hP hD hS hn hw hL hs hl
  refine va_new (D := (dC, dI)) (cl := vwCl) (tys := tyL dA) hx hb (Ts := u_ws C T N) (uok_at hu hc hwd) (fun _ h => h) (tyf ci) (tyf_ok ci C T N hc).1 hown (hwd _ _ hw1 hg1) (hwd _ _ hw2 hg2) (hwd _ _ hw3 hg3) hK hP hD hS hA hc hfs hcells hslots hd (fun q H1 hP1 hD1 hS1 => ?_)
  have ez : ∀ z, czE dA z (.inr (ci, fs)) = .inr (ci, fs) := fun z => by show Sum.inr (ci, fs.map (cz z)) = _; rw [hnz]
  exact hb9 H1 locs ls q (fun z => (ez z).trans (ez _).symm) (by rw [ez]; exact hP1) (by rw [ez]; exact hD1) hS1 hw hL hs hl
theorem o_newI (hX : mCx X) {n1 : Nat} {n : Int32} (hw1 : wat n1 = some (.arrayClass .int)) (hn0 : ¬ n < 0) (hby : n.toNatClampNeg * 8 ≤ 536870912) (hcells : cells + 1 ≤ (mRm X).cells) (hslots : slots + n.toNatClampNeg ≤ (mRm X).slots) (hlen : W9.length < 1000000) (hd : decode (mby (mkk X)) pc = .ok (.newarray .int, 2))
    (kk : ∀ ad' : Nat → Nat, (∀ j, j < W9.length → ad' j = ad j) → mGo X (cells + 1) (slots + n.toNatClampNeg) ad' L (.ref W9.length :: r) (W9 ++ [.inl (1, n.toNatClampNeg, .inl (fun _ => 0))]) (pc + 2)) : mGo X cells slots ad L (.int n :: r) W9 pc := by
  have hb9 := m_born (X := X) hlen (show wE 0 (.inl (1, n.toNatClampNeg, .inl (fun _ => 0))) from trivial) kk
  obtain ⟨p, l, e, R, s, m, args, below, meth, c, Q, A, dC, dI, dA, adR, RO, k⟩ := X
  obtain ⟨hx, hb, hml, hown, hwA, hA, hK, hRO, hROA, hlk, hrt, hfr, hlo, hini⟩ := hX
  have hwd : ∀ (n : Nat) (w : Cond), wat n = some w → goodWord w = true → w.before args s = true := fun n w h g => hwA w (wA_mem h g)
  intro H locs ls hP hD hS hn hw hL hs hl
  have hby9 : n.toNatClampNeg * componentBytes .int ≤ 536870912 := Nat.le_trans (Nat.mul_le_mul_left _ (by decide)) hby
  refine va_newa (D := (dC, dI)) (cl := vwCl) (tys := tyL dA) hx hb (hwd _ _ hw1 rfl) (ty := .int) rfl hK hP hD hS hA (a0 := (n.toNatClampNeg, .inl (fun _ => 0))) (fun _ => rfl) hn0 rfl hby9 hcells hslots hd (fun q cA H1 hK1 hP1 hD1 hS1 => ?_)
  have hcA : cA = dA 1 := by
    have h1 := (hK1.2 6 (cA, .int) rfl).2
    have h2 := (hK.2 1 (dA 1, .int) rfl).2
    exact Option.some.inj (h1.symm.trans h2)
  subst hcA
  exact hb9 H1 locs ls q (fun z => rfl) hP1 hD1 hS1 hw hL (wv_tail hs) hl
theorem o_newB (hX : mCx X) {n1 : Nat} {n : Int32} (hw1 : wat n1 = some (.arrayClass .byte)) (hn0 : ¬ n < 0) (hby : n.toNatClampNeg * 8 ≤ 536870912) (hcells : cells + 1 ≤ (mRm X).cells) (hslots : slots + n.toNatClampNeg ≤ (mRm X).slots) (hlen : W9.length < 1000000) (hd : decode (mby (mkk X)) pc = .ok (.newarray .byte, 2))
    (kk : ∀ ad' : Nat → Nat, (∀ j, j < W9.length → ad' j = ad j) → mGo X (cells + 1) (slots + n.toNatClampNeg) ad' L (.ref W9.length :: r) (W9 ++ [.inl (0, n.toNatClampNeg, .inl (fun _ => 0))]) (pc + 2)) : mGo X cells slots ad L (.int n :: r) W9 pc := by
  have hb9 := m_born (X := X) hlen (show wE 0 (.inl (0, n.toNatClampNeg, .inl (fun _ => 0))) from trivial) kk
  obtain ⟨p, l, e, R, s, m, args, below, meth, c, Q, A, dC, dI, dA, adR, RO, k⟩ := X
  obtain ⟨hx, hb, hml, hown, hwA, hA, hK, hRO, hROA, hlk, hrt, hfr, hlo, hini⟩ := hX
  have hwd : ∀ (n : Nat) (w : Cond), wat n = some w → goodWord w = true → w.before args s = true := fun n w h g => hwA w (wA_mem h g)
  intro H locs ls hP hD hS hn hw hL hs hl
  have hby9 : n.toNatClampNeg * componentBytes .byte ≤ 536870912 := Nat.le_trans (Nat.mul_le_mul_left _ (by decide)) hby
  refine va_newa (D := (dC, dI)) (cl := vwCl) (tys := tyL dA) hx hb (hwd _ _ hw1 rfl) (ty := .byte) rfl hK hP hD hS hA (a0 := (n.toNatClampNeg, .inl (fun _ => 0))) (fun _ => rfl) hn0 rfl hby9 hcells hslots hd (fun q cA H1 hK1 hP1 hD1 hS1 => ?_)
  have hcA : cA = dA 0 := by
    have h1 := (hK1.2 6 (cA, .byte) rfl).2
    have h2 := (hK.2 0 (dA 0, .byte) rfl).2
    exact Option.some.inj (h1.symm.trans h2)
  subst hcA
  exact hb9 H1 locs ls q (fun z => rfl) hP1 hD1 hS1 hw hL (wv_tail hs) hl
theorem o_newZ (hX : mCx X) {n1 : Nat} {n : Int32} (hw1 : wat n1 = some (.arrayClass .boolean)) (hn0 : ¬ n < 0) (hby : n.toNatClampNeg * 8 ≤ 536870912) (hcells : cells + 1 ≤ (mRm X).cells) (hslots : slots + n.toNatClampNeg ≤ (mRm X).slots) (hlen : W9.length < 1000000) (hd : decode (mby (mkk X)) pc = .ok (.newarray .boolean, 2))
    (kk : ∀ ad' : Nat → Nat, (∀ j, j < W9.length → ad' j = ad j) → mGo X (cells + 1) (slots + n.toNatClampNeg) ad' L (.ref W9.length :: r) (W9 ++ [.inl (2, n.toNatClampNeg, .inl (fun _ => 0))]) (pc + 2)) : mGo X cells slots ad L (.int n :: r) W9 pc := by
  have hb9 := m_born (X := X) hlen (show wE 0 (.inl (2, n.toNatClampNeg, .inl (fun _ => 0))) from trivial) kk
  obtain ⟨p, l, e, R, s, m, args, below, meth, c, Q, A, dC, dI, dA, adR, RO, k⟩ := X
  obtain ⟨hx, hb, hml, hown, hwA, hA, hK, hRO, hROA, hlk, hrt, hfr, hlo, hini⟩ := hX
  have hwd : ∀ (n : Nat) (w : Cond), wat n = some w → goodWord w = true → w.before args s = true := fun n w h g => hwA w (wA_mem h g)
  intro H locs ls hP hD hS hn hw hL hs hl
  have hby9 : n.toNatClampNeg * componentBytes .boolean ≤ 536870912 := Nat.le_trans (Nat.mul_le_mul_left _ (by decide)) hby
  refine va_newa (D := (dC, dI)) (cl := vwCl) (tys := tyL dA) hx hb (hwd _ _ hw1 rfl) (ty := .boolean) rfl hK hP hD hS hA (a0 := (n.toNatClampNeg, .inl (fun _ => 0))) (fun _ => rfl) hn0 rfl hby9 hcells hslots hd (fun q cA H1 hK1 hP1 hD1 hS1 => ?_)
  have hcA : cA = dA 2 := by
    have h1 := (hK1.2 6 (cA, .boolean) rfl).2
    have h2 := (hK.2 2 (dA 2, .boolean) rfl).2
    exact Option.some.inj (h1.symm.trans h2)
  subst hcA
  exact hb9 H1 locs ls q (fun z => rfl) hP1 hD1 hS1 hw hL (wv_tail hs) hl
theorem o_newJ (hX : mCx X) {n1 : Nat} {n : Int32} (hw1 : wat n1 = some (.arrayClass .long)) (hn0 : ¬ n < 0) (hby : n.toNatClampNeg * 8 ≤ 536870912) (hcells : cells + 1 ≤ (mRm X).cells) (hslots : slots + n.toNatClampNeg ≤ (mRm X).slots) (hlen : W9.length < 1000000) (hd : decode (mby (mkk X)) pc = .ok (.newarray .long, 2))
    (kk : ∀ ad' : Nat → Nat, (∀ j, j < W9.length → ad' j = ad j) → mGo X (cells + 1) (slots + n.toNatClampNeg) ad' L (.ref W9.length :: r) (W9 ++ [.inl (4, n.toNatClampNeg, .inr (.inl (fun _ => 0)))]) (pc + 2)) : mGo X cells slots ad L (.int n :: r) W9 pc := by
  have hb9 := m_born (X := X) hlen (show wE 0 (.inl (4, n.toNatClampNeg, .inr (.inl (fun _ => 0)))) from trivial) kk
  obtain ⟨p, l, e, R, s, m, args, below, meth, c, Q, A, dC, dI, dA, adR, RO, k⟩ := X
  obtain ⟨hx, hb, hml, hown, hwA, hA, hK, hRO, hROA, hlk, hrt, hfr, hlo, hini⟩ := hX
  have hwd : ∀ (n : Nat) (w : Cond), wat n = some w → goodWord w = true → w.before args s = true := fun n w h g => hwA w (wA_mem h g)
  intro H locs ls hP hD hS hn hw hL hs hl
  have hby9 : n.toNatClampNeg * componentBytes .long ≤ 536870912 := Nat.le_trans (Nat.mul_le_mul_left _ (by decide)) hby
  refine va_newa (D := (dC, dI)) (cl := vwCl) (tys := tyL dA) hx hb (hwd _ _ hw1 rfl) (ty := .long) rfl hK hP hD hS hA (a0 := (n.toNatClampNeg, .inr (.inl (fun _ => 0)))) (fun _ => rfl) hn0 rfl hby9 hcells hslots hd (fun q cA H1 hK1 hP1 hD1 hS1 => ?_)
  have hcA : cA = dA 4 := by
    have h1 := (hK1.2 6 (cA, .long) rfl).2
    have h2 := (hK.2 4 (dA 4, .long) rfl).2
    exact Option.some.inj (h1.symm.trans h2)
  subst hcA
  exact hb9 H1 locs ls q (fun z => rfl) hP1 hD1 hS1 hw hL (wv_tail hs) hl
theorem o_newD (hX : mCx X) {n1 : Nat} {n : Int32} (hw1 : wat n1 = some (.arrayClass .double)) (hn0 : ¬ n < 0) (hby : n.toNatClampNeg * 8 ≤ 536870912) (hcells : cells + 1 ≤ (mRm X).cells) (hslots : slots + n.toNatClampNeg ≤ (mRm X).slots) (hlen : W9.length < 1000000) (hd : decode (mby (mkk X)) pc = .ok (.newarray .double, 2))
    (kk : ∀ ad' : Nat → Nat, (∀ j, j < W9.length → ad' j = ad j) → mGo X (cells + 1) (slots + n.toNatClampNeg) ad' L (.ref W9.length :: r) (W9 ++ [.inl (5, n.toNatClampNeg, .inr (.inr (.inr (.inl (fun _ => 0)))))]) (pc + 2)) : mGo X cells slots ad L (.int n :: r) W9 pc := by
  have hb9 := m_born (X := X) hlen (show wE 0 (.inl (5, n.toNatClampNeg, .inr (.inr (.inr (.inl (fun _ => 0)))))) from trivial) kk
  obtain ⟨p, l, e, R, s, m, args, below, meth, c, Q, A, dC, dI, dA, adR, RO, k⟩ := X
  obtain ⟨hx, hb, hml, hown, hwA, hA, hK, hRO, hROA, hlk, hrt, hfr, hlo, hini⟩ := hX
  have hwd : ∀ (n : Nat) (w : Cond), wat n = some w → goodWord w = true → w.before args s = true := fun n w h g => hwA w (wA_mem h g)
  intro H locs ls hP hD hS hn hw hL hs hl
  have hby9 : n.toNatClampNeg * componentBytes .double ≤ 536870912 := Nat.le_trans (Nat.mul_le_mul_left _ (by decide)) hby
  refine va_newa (D := (dC, dI)) (cl := vwCl) (tys := tyL dA) hx hb (hwd _ _ hw1 rfl) (ty := .double) rfl hK hP hD hS hA (a0 := (n.toNatClampNeg, .inr (.inr (.inr (.inl (fun _ => 0)))))) (fun _ => rfl) hn0 rfl hby9 hcells hslots hd (fun q cA H1 hK1 hP1 hD1 hS1 => ?_)
  have hcA : cA = dA 5 := by
    have h1 := (hK1.2 6 (cA, .double) rfl).2
    have h2 := (hK.2 5 (dA 5, .double) rfl).2
    exact Option.some.inj (h1.symm.trans h2)
  subst hcA
  exact hb9 H1 locs ls q (fun z => rfl) hP1 hD1 hS1 hw hL (wv_tail hs) hl
theorem o_anew (hX : mCx X) {index n1 n2 : Nat} {n : Int32} (hw1 : wat n1 = some (.classLink (mnm (mkk X)).cls index "MuleTrain$Train")) (hg1 : goodWord (.classLink (mnm (mkk X)).cls index "MuleTrain$Train") = true) (hw2 : wat n2 = some (.arrayOver (.object "MuleTrain$Train"))) (hao : ∀ (args : Array Value) (s : State), (Cond.arrayOver (.object "MuleTrain$Train")).before args s = true → va_AO "MuleTrain$Train" s) (hg2 : goodWord (.arrayOver (.object "MuleTrain$Train")) = true) (hn0 : ¬ n < 0) (hby : n.toNatClampNeg * 4 ≤ 536870912) (hcells : cells + 1 ≤ (mRm X).cells) (hslots : slots + n.toNatClampNeg ≤ (mRm X).slots) (hlen : W9.length < 1000000) (hd : decode (mby (mkk X)) pc = .ok (.anewarray index, 3))
    (kk : ∀ ad' : Nat → Nat, (∀ j, j < W9.length → ad' j = ad j) → mGo X (cells + 1) (slots + n.toNatClampNeg) ad' L (.ref W9.length :: r) (W9 ++ [.inl (3, n.toNatClampNeg, .inr (.inr (.inr (.inr (fun _ => none)))))]) (pc + 3)) : mGo X cells slots ad L (.int n :: r) W9 pc := by
  have hb9 := m_born (X := X) hlen (show wE 0 (.inl (3, n.toNatClampNeg, .inr (.inr (.inr (.inr (fun _ => none)))))) from fun i r h => by cases h) kk
  obtain ⟨p, l, e, R, s, m, args, below, meth, c, Q, A, dC, dI, dA, adR, RO, k⟩ := X
  obtain ⟨hx, hb, hml, hown, hwA, hA, hK, hRO, hROA, hlk, hrt, hfr, hlo, hini⟩ := hX
  have hwd : ∀ (n : Nat) (w : Cond), wat n = some w → goodWord w = true → w.before args s = true := fun n w h g => hwA w (wA_mem h g)
  intro H locs ls hP hD hS hn hw hL hs hl
  refine va_newq (D := (dC, dI)) (cl := vwCl) (tys := tyL dA) hx hb hown (hwd _ _ hw1 hg1) (hao _ _ (hwd _ _ hw2 hg2)) hK hP hD hS hA hn0 rfl hby hcells hslots hd (fun q cA H1 hK1 hP1 hD1 hS1 => ?_)
  have hcA : cA = dA 3 := by
    obtain ⟨_, _, _, _, _, h1⟩ := (hK1.2 6 (cA, .object "MuleTrain$Train") rfl).2
    obtain ⟨_, _, _, _, _, h2⟩ := (hK.2 3 (dA 3, .object "MuleTrain$Train") rfl).2
    exact Option.some.inj (h1.symm.trans h2)
  subst hcA
  exact hb9 H1 locs ls q (fun z => rfl) hP1 hD1 hS1 hw hL (wv_tail hs) hl
theorem o_mmax (hX : mCx X) {x y : Int32} {index n1 n2 n3 n4 : Nat} (hw1 : wat n1 = some (.methodLink (mnm (mkk X)).cls index Lib.Math.max.name)) (hg1 : goodWord (.methodLink (mnm (mkk X)).cls index Lib.Math.max.name) = true) (hw2 : wat n2 = some (.static Lib.Math.max.name)) (hg2 : goodWord (.static Lib.Math.max.name) = true) (hw3 : wat n3 = some (.initialized "java/lang/Math")) (hg3 : goodWord (.initialized "java/lang/Math") = true) (hw4 : wat n4 = some (.code Lib.Math.max.name Lib.Math.max.code 2 (some .int))) (hg4 : goodWord (.code Lib.Math.max.name Lib.Math.max.code 2 (some .int)) = true)
    (hr : mcs r = true) (hcells : cells ≤ (mRm X).cells) (hslots : slots ≤ (mRm X).slots) (hd : decode (mby (mkk X)) pc = .ok (.invokestatic index, 3)) (kk : mGo X cells slots ad L (.int (if x < y then y else x) :: r) W9 (pc + 3)) : mGo X cells slots ad L (.int y :: .int x :: r) W9 pc := by
  obtain ⟨p, l, e, R, s, m, args, below, meth, c, Q, A, dC, dI, dA, adR, RO, k⟩ := X
  obtain ⟨hx, hb, hml, hown, hwA, hA, hK, hRO, hROA, hlk, hrt, hfr, hlo, hini⟩ := hX
  have hwd : ∀ (n : Nat) (w : Cond), wat n = some w → goodWord w = true → w.before args s = true := fun n w h g => hwA w (wA_mem h g)
  intro H locs ls hP hD hS hn hw hL hs hl
  have hr9 := Nat.le_of_ble_eq_true hr
  have hcells : cells ≤ R.cells := hcells
  have hslots : slots ≤ R.slots := hslots
  exact va_mmax hx hb (hml.trans hl.1.symm) hown (hwd _ _ hw1 hg1) (hwd _ _ hw2 hg2) (hwd _ _ hw3 hg3) (hwd _ _ hw4 hg4) (by omega) (by rw [cz_cats]; omega) hcells hslots hd (kk H locs ls hP hD hS hn hw hL (wv_int (wv_tail (wv_tail hs))) hl)
theorem o_mmin (hX : mCx X) {x y : Int32} {index n1 n2 n3 n4 : Nat} (hw1 : wat n1 = some (.methodLink (mnm (mkk X)).cls index Lib.Math.min.name)) (hg1 : goodWord (.methodLink (mnm (mkk X)).cls index Lib.Math.min.name) = true) (hw2 : wat n2 = some (.static Lib.Math.min.name)) (hg2 : goodWord (.static Lib.Math.min.name) = true) (hw3 : wat n3 = some (.initialized "java/lang/Math")) (hg3 : goodWord (.initialized "java/lang/Math") = true) (hw4 : wat n4 = some (.code Lib.Math.min.name Lib.Math.min.code 2 (some .int))) (hg4 : goodWord (.code Lib.Math.min.name Lib.Math.min.code 2 (some .int)) = true)
    (hr : mcs r = true) (hcells : cells ≤ (mRm X).cells) (hslots : slots ≤ (mRm X).slots) (hd : decode (mby (mkk X)) pc = .ok (.invokestatic index, 3)) (kk : mGo X cells slots ad L (.int (if y < x then y else x) :: r) W9 (pc + 3)) : mGo X cells slots ad L (.int y :: .int x :: r) W9 pc := by
  obtain ⟨p, l, e, R, s, m, args, below, meth, c, Q, A, dC, dI, dA, adR, RO, k⟩ := X
  obtain ⟨hx, hb, hml, hown, hwA, hA, hK, hRO, hROA, hlk, hrt, hfr, hlo, hini⟩ := hX
  have hwd : ∀ (n : Nat) (w : Cond), wat n = some w → goodWord w = true → w.before args s = true := fun n w h g => hwA w (wA_mem h g)
  intro H locs ls hP hD hS hn hw hL hs hl
  have hr9 := Nat.le_of_ble_eq_true hr
  have hcells : cells ≤ R.cells := hcells
  have hslots : slots ≤ R.slots := hslots
  exact va_mmin hx hb (hml.trans hl.1.symm) hown (hwd _ _ hw1 hg1) (hwd _ _ hw2 hg2) (hwd _ _ hw3 hg3) (hwd _ _ hw4 hg4) (by omega) (by rw [cz_cats]; omega) hcells hslots hd (kk H locs ls hP hD hS hn hw hL (wv_int (wv_tail (wv_tail hs))) hl)
theorem o_mabs (hX : mCx X) {x : Int32} {index n1 n2 n3 n4 : Nat} (hw1 : wat n1 = some (.methodLink (mnm (mkk X)).cls index Lib.Math.abs.name)) (hg1 : goodWord (.methodLink (mnm (mkk X)).cls index Lib.Math.abs.name) = true) (hw2 : wat n2 = some (.static Lib.Math.abs.name)) (hg2 : goodWord (.static Lib.Math.abs.name) = true) (hw3 : wat n3 = some (.initialized "java/lang/Math")) (hg3 : goodWord (.initialized "java/lang/Math") = true) (hw4 : wat n4 = some (.code Lib.Math.abs.name Lib.Math.abs.code 1 (some .int))) (hg4 : goodWord (.code Lib.Math.abs.name Lib.Math.abs.code 1 (some .int)) = true)
    (hr : mcs r = true) (hcells : cells ≤ (mRm X).cells) (hslots : slots ≤ (mRm X).slots) (hd : decode (mby (mkk X)) pc = .ok (.invokestatic index, 3)) (kk : mGo X cells slots ad L (.int (if 0 ≤ x then x else 0 - x) :: r) W9 (pc + 3)) : mGo X cells slots ad L (.int x :: r) W9 pc := by
  obtain ⟨p, l, e, R, s, m, args, below, meth, c, Q, A, dC, dI, dA, adR, RO, k⟩ := X
  obtain ⟨hx, hb, hml, hown, hwA, hA, hK, hRO, hROA, hlk, hrt, hfr, hlo, hini⟩ := hX
  have hwd : ∀ (n : Nat) (w : Cond), wat n = some w → goodWord w = true → w.before args s = true := fun n w h g => hwA w (wA_mem h g)
  intro H locs ls hP hD hS hn hw hL hs hl
  have hr9 := Nat.le_of_ble_eq_true hr
  have hcells : cells ≤ R.cells := hcells
  have hslots : slots ≤ R.slots := hslots
  exact va_mabs hx hb (hml.trans hl.1.symm) hown (hwd _ _ hw1 hg1) (hwd _ _ hw2 hg2) (hwd _ _ hw3 hg3) (hwd _ _ hw4 hg4) (by omega) (by rw [cz_cats]; omega) hcells hslots hd (kk H locs ls hP hD hS hn hw hL (wv_int (wv_tail hs)) hl)
theorem o_copyi (hX : mCx X) {ty : FieldType} {t q0 q1 n0 n1 index m1 m2 m3 m4 : Nat} {f g : Nat → Int32} {sp dp n : Int32} (hw1 : wat m1 = some (.methodLink (mnm (mkk X)).cls index arraycopyName)) (hg1 : goodWord (.methodLink (mnm (mkk X)).cls index arraycopyName) = true) (hw2 : wat m2 = some (.native arraycopyName)) (hg2 : goodWord (.native arraycopyName) = true) (hw3 : wat m3 = some (.static arraycopyName)) (hg3 : goodWord (.static arraycopyName) = true) (hw4 : wat m4 = some (.initialized "java/lang/System")) (hg4 : goodWord (.initialized "java/lang/System") = true)
    (hq : Nat.blt q1 1000000 = true) (hm0 : mget (mRO X) W9 q0 = some (.inl (t, n0, .inl f))) (hm1 : W9[q1]? = some (.inl (t, n1, .inl g))) (ht : ∀ dA, (tyL dA)[t]? = some (dA t, ty)) (hprim : refKind ty = false) (hq0 : Nat.blt q0 1000000 = true)
    (h1 : ¬ sp < 0) (h2 : ¬ dp < 0) (h3 : ¬ n < 0) (h4 : sp.toNatClampNeg + n.toNatClampNeg ≤ n0) (h5 : dp.toNatClampNeg + n.toNatClampNeg ≤ n1) (hfit : ∀ i, i < n.toNatClampNeg → fits ty (.int (f (sp.toNatClampNeg + i))) = true)
    (hr : mcs r = true) (hd : decode (mby (mkk X)) pc = .ok (.invokestatic index, 3)) (kk : mGo X cells slots ad L r (W9.set q1 (.inl (t, n1, .inl (va_cpy f g sp.toNatClampNeg dp.toNatClampNeg n.toNatClampNeg)))) (pc + 3)) : mGo X cells slots ad L (.int n :: .int dp :: .ref q1 :: .int sp :: .ref q0 :: r) W9 pc := by
  obtain ⟨p, l, e, R, s, m, args, below, meth, c, Q, A, dC, dI, dA, adR, RO, k⟩ := X
  obtain ⟨hx, hb, hml, hown, hwA, hA, hK, hRO, hROA, hlk, hrt, hfr, hlo, hini⟩ := hX
  have hwd : ∀ (n : Nat) (w : Cond), wat n = some w → goodWord w = true → w.before args s = true := fun n w h g => hwA w (wA_mem h g)
  intro H locs ls hP hD hS hn hw hL hs hl
  have hr9 := Nat.le_of_ble_eq_true hr
  have hz : mz adR ad q1 = ad q1 := mz_lt hq
  have hz0 : mz adR ad q0 = ad q0 := mz_lt hq0
  rw [mget_lt hq0] at hm0
  have hloc9 : ((r.map (cz (mz adR ad))).map fun v => v.category).sum + (nativeFrameWords "java/lang/System" "arraycopy" 5 + 11) ≤ R.locals := by
    have : nativeFrameWords "java/lang/System" "arraycopy" 5 + 11 ≤ 100 := by decide
    rw [cz_cats]
    omega
  show W p l e R s m args below meth c H locs cells slots Q (F0 m pc ls (.int n :: .int dp :: .ref (mz adR ad q1) :: .int sp :: .ref (mz adR ad q0) :: r.map (cz (mz adR ad))))
  rw [hz, hz0]
  refine va_copyi (D := (dC, dI)) (cl := vwCl) (tys := tyL dA) hx hb (hml.trans hl.1.symm) hown (hwd _ _ hw1 hg1) (hwd _ _ hw2 hg2) (hwd _ _ hw3 hg3) (hwd _ _ hw4 hg4) hK hP hD hS q0 q1 t t (c0 := dA t) (c1 := dA t) (n0 := n0) (n1 := n1) (f := f) (g := g) (ty := ty) (by rw [cw_at, hm0]; rfl) (by rw [cw_at, hm1]; rfl) (ht dA) (ht dA) hprim h1 h2 h3 h4 h5 hfit (by omega) hloc9 hd (fun H1 locs1 hP1 hD1 hS1 => ?_)
  have he := cw_set dA (mz adR ad) ad W9 q1 (.inl (t, n1, .inl (va_cpy f g sp.toNatClampNeg dp.toNatClampNeg n.toNatClampNeg)))
  have hP2 : va_P (dC, dI) vwCl ((cw dA (mz adR ad) ad W9).set q1 (ad q1, czE dA (mz adR ad) (.inl (t, n1, .inl (va_cpy f g sp.toNatClampNeg dp.toNatClampNeg n.toNatClampNeg))))) H1 := hP1
  have hD2 : va_D A ((cw dA (mz adR ad) ad W9).set q1 (ad q1, czE dA (mz adR ad) (.inl (t, n1, .inl (va_cpy f g sp.toNatClampNeg dp.toNatClampNeg n.toNatClampNeg))))) := hD1
  rw [he] at hP2 hD2
  exact kk H1 locs1 ls hP2 hD2 hS1 (by rw [List.length_set]; exact hn) (by rw [List.length_set]; exact wW_set trivial hw) (by rw [List.length_set]; exact hL) (by rw [List.length_set]; exact wv_tail (wv_tail (wv_tail (wv_tail (wv_tail hs))))) hl
theorem o_objInit (hX : mCx X) {index n1 n2 n3 q : Nat} (hw1 : wat n1 = some (.methodLink (mnm (mkk X)).cls index Lib.objectInit)) (hg1 : goodWord (.methodLink (mnm (mkk X)).cls index Lib.objectInit) = true) (hw2 : wat n2 = some (.instanceMethod Lib.objectInit)) (hg2 : goodWord (.instanceMethod Lib.objectInit) = true) (hw3 : wat n3 = some (.code Lib.objectInit ⟨#[0xb1]⟩ 1 none)) (hg3 : goodWord (.code Lib.objectInit ⟨#[0xb1]⟩ 1 none) = true) (hr : mcs r = true) (hd : decode (mby (mkk X)) pc = .ok (.invokespecial index, 3)) (kk : mGo X cells slots ad L r W9 (pc + 3)) : mGo X cells slots ad L (.ref q :: r) W9 pc := by
  obtain ⟨p, l, e, R, s, m, args, below, meth, c, Q, A, dC, dI, dA, adR, RO, k⟩ := X
  obtain ⟨hx, hb, hml, hown, hwA, hA, hK, hRO, hROA, hlk, hrt, hfr, hlo, hini⟩ := hX
  have hwd : ∀ (n : Nat) (w : Cond), wat n = some w → goodWord w = true → w.before args s = true := fun n w h g => hwA w (wA_mem h g)
  intro H locs ls hP hD hS hn hw hL hs hl
  have hr9 := Nat.le_of_ble_eq_true hr
  exact W.objInit hx hb hown (hwd _ _ hw1 hg1) (hwd _ _ hw2 hg2) (hwd _ _ hw3 hg3) (g := F0 m pc ls (.ref (mz adR ad q) :: r.map (cz (mz adR ad)))) rfl (hl.1.trans hml.symm) rfl hd (by omega) (by show 0 + _ + 12 ≤ _; rw [cz_cats]; omega) (kk H locs ls hP hD hS hn hw hL (wv_tail hs) hl)
theorem o_ifnullR (hX : mCx X) {off : Int}  {q : Nat} (hd : decode (mby (mkk X)) pc = .ok (.ifnull off, 3)) (kk : mGo X cells slots ad L r W9 (pc + 3)) : mGo X cells slots ad L (.ref q :: r) W9 pc := by
  obtain ⟨p, l, e, R, s, m, args, below, meth, c, Q, A, dC, dI, dA, adR, RO, k⟩ := X
  obtain ⟨hx, hb, hml, hown, hwA, hA, hK, hRO, hROA, hlk, hrt, hfr, hlo, hini⟩ := hX
  have hwd : ∀ (n : Nat) (w : Cond), wat n = some w → goodWord w = true → w.before args s = true := fun n w h g => hwA w (wA_mem h g)
  intro H locs ls hP hD hS hn hw hL hs hl
  exact lv_ifnull hx hb hd  (kk H locs ls hP hD hS hn hw hL (wv_tail hs) hl)
theorem o_ifnullN (hX : mCx X) {off : Int} {t : Nat} (ht : (pc : Int) + off = (t : Int))  (hd : decode (mby (mkk X)) pc = .ok (.ifnull off, 3)) (kk : mGo X cells slots ad L r W9 t) : mGo X cells slots ad L (.null :: r) W9 pc := by
  obtain ⟨p, l, e, R, s, m, args, below, meth, c, Q, A, dC, dI, dA, adR, RO, k⟩ := X
  obtain ⟨hx, hb, hml, hown, hwA, hA, hK, hRO, hROA, hlk, hrt, hfr, hlo, hini⟩ := hX
  have hwd : ∀ (n : Nat) (w : Cond), wat n = some w → goodWord w = true → w.before args s = true := fun n w h g => hwA w (wA_mem h g)
  intro H locs ls hP hD hS hn hw hL hs hl
  exact lv_ifnullN hx hb hd ht (kk H locs ls hP hD hS hn hw hL (wv_tail hs) hl)
theorem o_ifnnR (hX : mCx X) {off : Int} {t : Nat} (ht : (pc : Int) + off = (t : Int)) {q : Nat} (hd : decode (mby (mkk X)) pc = .ok (.ifnonnull off, 3)) (kk : mGo X cells slots ad L r W9 t) : mGo X cells slots ad L (.ref q :: r) W9 pc := by
  obtain ⟨p, l, e, R, s, m, args, below, meth, c, Q, A, dC, dI, dA, adR, RO, k⟩ := X
  obtain ⟨hx, hb, hml, hown, hwA, hA, hK, hRO, hROA, hlk, hrt, hfr, hlo, hini⟩ := hX
  have hwd : ∀ (n : Nat) (w : Cond), wat n = some w → goodWord w = true → w.before args s = true := fun n w h g => hwA w (wA_mem h g)
  intro H locs ls hP hD hS hn hw hL hs hl
  exact lv_ifnonnull hx hb hd ht (kk H locs ls hP hD hS hn hw hL (wv_tail hs) hl)
theorem o_ifnnN (hX : mCx X) {off : Int}   (hd : decode (mby (mkk X)) pc = .ok (.ifnonnull off, 3)) (kk : mGo X cells slots ad L r W9 (pc + 3)) : mGo X cells slots ad L (.null :: r) W9 pc := by
  obtain ⟨p, l, e, R, s, m, args, below, meth, c, Q, A, dC, dI, dA, adR, RO, k⟩ := X
  obtain ⟨hx, hb, hml, hown, hwA, hA, hK, hRO, hROA, hlk, hrt, hfr, hlo, hini⟩ := hX
  have hwd : ∀ (n : Nat) (w : Cond), wat n = some w → goodWord w = true → w.before args s = true := fun n w h g => hwA w (wA_mem h g)
  intro H locs ls hP hD hS hn hw hL hs hl
  exact lv_ifnonnullN hx hb hd  (kk H locs ls hP hD hS hn hw hL (wv_tail hs) hl)
end ALLOC
end
section
/-! a method's contract in the words of the small machine; calls -/
def mcw (k : Nat) : Cond := match mhh k with
  | [] => .code (mnm k) (mby k) (mml k) (mret k)
  | h => .codeWith (mnm k) (mby k) (mml k) (mret k) h
def mcl_0 : List (Nat × Nat) := [(0, 6122), (1, 5008), (2, 2231), (3, 5231), (4, 1206), (5, 1230), (6, 2211), (7, 2017), (8, 1040), (9, 2038), (10, 2002), (11, 2034), (12, 1222), (13, 2006), (14, 1218), (15, 2066), (16, 2022), (17, 2030), (18, 2013), (19, 2095)]
set_option maxRecDepth 100000 in
theorem mcl_0_ok : ∀ q ∈ mcl_0, wat q.2 = some (mcw q.1) ∧ goodWord (mcw q.1) = true := List.forall_mem_cons.mpr ⟨⟨rfl, rfl⟩, List.forall_mem_cons.mpr ⟨⟨rfl, rfl⟩, List.forall_mem_cons.mpr ⟨⟨rfl, rfl⟩, List.forall_mem_cons.mpr ⟨⟨rfl, rfl⟩, List.forall_mem_cons.mpr ⟨⟨rfl, rfl⟩, List.forall_mem_cons.mpr ⟨⟨rfl, rfl⟩, List.forall_mem_cons.mpr ⟨⟨rfl, rfl⟩, List.forall_mem_cons.mpr ⟨⟨rfl, rfl⟩, List.forall_mem_cons.mpr ⟨⟨rfl, rfl⟩, List.forall_mem_cons.mpr ⟨⟨rfl, rfl⟩, List.forall_mem_cons.mpr ⟨⟨rfl, rfl⟩, List.forall_mem_cons.mpr ⟨⟨rfl, rfl⟩, List.forall_mem_cons.mpr ⟨⟨rfl, rfl⟩, List.forall_mem_cons.mpr ⟨⟨rfl, rfl⟩, List.forall_mem_cons.mpr ⟨⟨rfl, rfl⟩, List.forall_mem_cons.mpr ⟨⟨rfl, rfl⟩, List.forall_mem_cons.mpr ⟨⟨rfl, rfl⟩, List.forall_mem_cons.mpr ⟨⟨rfl, rfl⟩, List.forall_mem_cons.mpr ⟨⟨rfl, rfl⟩, List.forall_mem_cons.mpr ⟨⟨rfl, rfl⟩, fun _ h => absurd h List.not_mem_nil⟩⟩⟩⟩⟩⟩⟩⟩⟩⟩⟩⟩⟩⟩⟩⟩⟩⟩⟩⟩
theorem mcl_0_nm : ∀ q ∈ mcl_0, (plainName (mnm q.1).cls && decide ((mnm q.1).cls ≠ "java/lang/invoke/MethodHandle") && decide ((mnm q.1).cls ≠ "java/lang/invoke/VarHandle")) = true := by decide +kernel
def mcl_1 : List (Nat × Nat) := [(20, 2122), (21, 2062), (22, 2111), (23, 2081), (24, 1202), (25, 1237), (26, 1226), (27, 1233), (28, 1197), (29, 4232), (30, 1145), (31, 2042), (32, 2221), (33, 6087), (34, 1214), (35, 1052), (36, 2026), (37, 2051), (38, 2056), (39, 2107)]
set_option maxRecDepth 100000 in
theorem mcl_1_ok : ∀ q ∈ mcl_1, wat q.2 = some (mcw q.1) ∧ goodWord (mcw q.1) = true := List.forall_mem_cons.mpr ⟨⟨rfl, rfl⟩, List.forall_mem_cons.mpr ⟨⟨rfl, rfl⟩, List.forall_mem_cons.mpr ⟨⟨rfl, rfl⟩, List.forall_mem_cons.mpr ⟨⟨rfl, rfl⟩, List.forall_mem_cons.mpr ⟨⟨rfl, rfl⟩, List.forall_mem_cons.mpr ⟨⟨rfl, rfl⟩, List.forall_mem_cons.mpr ⟨⟨rfl, rfl⟩, List.forall_mem_cons.mpr ⟨⟨rfl, rfl⟩, List.forall_mem_cons.mpr ⟨⟨rfl, rfl⟩, List.forall_mem_cons.mpr ⟨⟨rfl, rfl⟩, List.forall_mem_cons.mpr ⟨⟨rfl, rfl⟩, List.forall_mem_cons.mpr ⟨⟨rfl, rfl⟩, List.forall_mem_cons.mpr ⟨⟨rfl, rfl⟩, List.forall_mem_cons.mpr ⟨⟨rfl, rfl⟩, List.forall_mem_cons.mpr ⟨⟨rfl, rfl⟩, List.forall_mem_cons.mpr ⟨⟨rfl, rfl⟩, List.forall_mem_cons.mpr ⟨⟨rfl, rfl⟩, List.forall_mem_cons.mpr ⟨⟨rfl, rfl⟩, List.forall_mem_cons.mpr ⟨⟨rfl, rfl⟩, List.forall_mem_cons.mpr ⟨⟨rfl, rfl⟩, fun _ h => absurd h List.not_mem_nil⟩⟩⟩⟩⟩⟩⟩⟩⟩⟩⟩⟩⟩⟩⟩⟩⟩⟩⟩⟩
theorem mcl_1_nm : ∀ q ∈ mcl_1, (plainName (mnm q.1).cls && decide ((mnm q.1).cls ≠ "java/lang/invoke/MethodHandle") && decide ((mnm q.1).cls ≠ "java/lang/invoke/VarHandle")) = true := by decide +kernel
def mcl_2 : List (Nat × Nat) := [(40, 2217), (41, 1210), (42, 5180), (43, 2185), (44, 2197), (45, 2133), (46, 2153), (47, 2189), (48, 2168), (49, 1046), (50, 5185), (51, 5090), (52, 2177), (53, 2157), (54, 2046), (55, 5196), (56, 2103), (57, 2141), (58, 5023), (59, 3082)]
set_option maxRecDepth 100000 in
theorem mcl_2_ok : ∀ q ∈ mcl_2, wat q.2 = some (mcw q.1) ∧ goodWord (mcw q.1) = true := List.forall_mem_cons.mpr ⟨⟨rfl, rfl⟩, List.forall_mem_cons.mpr ⟨⟨rfl, rfl⟩, List.forall_mem_cons.mpr ⟨⟨rfl, rfl⟩, List.forall_mem_cons.mpr ⟨⟨rfl, rfl⟩, List.forall_mem_cons.mpr ⟨⟨rfl, rfl⟩, List.forall_mem_cons.mpr ⟨⟨rfl, rfl⟩, List.forall_mem_cons.mpr ⟨⟨rfl, rfl⟩, List.forall_mem_cons.mpr ⟨⟨rfl, rfl⟩, List.forall_mem_cons.mpr ⟨⟨rfl, rfl⟩, List.forall_mem_cons.mpr ⟨⟨rfl, rfl⟩, List.forall_mem_cons.mpr ⟨⟨rfl, rfl⟩, List.forall_mem_cons.mpr ⟨⟨rfl, rfl⟩, List.forall_mem_cons.mpr ⟨⟨rfl, rfl⟩, List.forall_mem_cons.mpr ⟨⟨rfl, rfl⟩, List.forall_mem_cons.mpr ⟨⟨rfl, rfl⟩, List.forall_mem_cons.mpr ⟨⟨rfl, rfl⟩, List.forall_mem_cons.mpr ⟨⟨rfl, rfl⟩, List.forall_mem_cons.mpr ⟨⟨rfl, rfl⟩, List.forall_mem_cons.mpr ⟨⟨rfl, rfl⟩, List.forall_mem_cons.mpr ⟨⟨rfl, rfl⟩, fun _ h => absurd h List.not_mem_nil⟩⟩⟩⟩⟩⟩⟩⟩⟩⟩⟩⟩⟩⟩⟩⟩⟩⟩⟩⟩
theorem mcl_2_nm : ∀ q ∈ mcl_2, (plainName (mnm q.1).cls && decide ((mnm q.1).cls ≠ "java/lang/invoke/MethodHandle") && decide ((mnm q.1).cls ≠ "java/lang/invoke/VarHandle")) = true := by decide +kernel
def mcl_3 : List (Nat × Nat) := [(60, 2149), (61, 2074), (62, 2088), (63, 3086), (64, 6018), (65, 2207), (66, 2117), (67, 2145), (68, 2099), (69, 5019), (70, 5086), (71, 2173), (72, 2129), (73, 2181), (74, 6054), (75, 2164), (76, 5082), (77, 2193), (78, 3078), (79, 3099)]
set_option maxRecDepth 100000 in
theorem mcl_3_ok : ∀ q ∈ mcl_3, wat q.2 = some (mcw q.1) ∧ goodWord (mcw q.1) = true := List.forall_mem_cons.mpr ⟨⟨rfl, rfl⟩, List.forall_mem_cons.mpr ⟨⟨rfl, rfl⟩, List.forall_mem_cons.mpr ⟨⟨rfl, rfl⟩, List.forall_mem_cons.mpr ⟨⟨rfl, rfl⟩, List.forall_mem_cons.mpr ⟨⟨rfl, rfl⟩, List.forall_mem_cons.mpr ⟨⟨rfl, rfl⟩, List.forall_mem_cons.mpr ⟨⟨rfl, rfl⟩, List.forall_mem_cons.mpr ⟨⟨rfl, rfl⟩, List.forall_mem_cons.mpr ⟨⟨rfl, rfl⟩, List.forall_mem_cons.mpr ⟨⟨rfl, rfl⟩, List.forall_mem_cons.mpr ⟨⟨rfl, rfl⟩, List.forall_mem_cons.mpr ⟨⟨rfl, rfl⟩, List.forall_mem_cons.mpr ⟨⟨rfl, rfl⟩, List.forall_mem_cons.mpr ⟨⟨rfl, rfl⟩, List.forall_mem_cons.mpr ⟨⟨rfl, rfl⟩, List.forall_mem_cons.mpr ⟨⟨rfl, rfl⟩, List.forall_mem_cons.mpr ⟨⟨rfl, rfl⟩, List.forall_mem_cons.mpr ⟨⟨rfl, rfl⟩, List.forall_mem_cons.mpr ⟨⟨rfl, rfl⟩, List.forall_mem_cons.mpr ⟨⟨rfl, rfl⟩, fun _ h => absurd h List.not_mem_nil⟩⟩⟩⟩⟩⟩⟩⟩⟩⟩⟩⟩⟩⟩⟩⟩⟩⟩⟩⟩
theorem mcl_3_nm : ∀ q ∈ mcl_3, (plainName (mnm q.1).cls && decide ((mnm q.1).cls ≠ "java/lang/invoke/MethodHandle") && decide ((mnm q.1).cls ≠ "java/lang/invoke/VarHandle")) = true := by decide +kernel
def mcl_4 : List (Nat × Nat) := [(80, 6061), (81, 6072), (82, 5176), (83, 5163), (84, 5043), (85, 5210), (86, 6083), (87, 3066), (88, 3070), (89, 5149), (90, 4212), (91, 6014), (92, 5218), (93, 5203), (94, 3074), (95, 1032), (96, 5192), (97, 5000), (98, 2009), (99, 2084)]
set_option maxRecDepth 100000 in
theorem mcl_4_ok : ∀ q ∈ mcl_4, wat q.2 = some (mcw q.1) ∧ goodWord (mcw q.1) = true := List.forall_mem_cons.mpr ⟨⟨rfl, rfl⟩, List.forall_mem_cons.mpr ⟨⟨rfl, rfl⟩, List.forall_mem_cons.mpr ⟨⟨rfl, rfl⟩, List.forall_mem_cons.mpr ⟨⟨rfl, rfl⟩, List.forall_mem_cons.mpr ⟨⟨rfl, rfl⟩, List.forall_mem_cons.mpr ⟨⟨rfl, rfl⟩, List.forall_mem_cons.mpr ⟨⟨rfl, rfl⟩, List.forall_mem_cons.mpr ⟨⟨rfl, rfl⟩, List.forall_mem_cons.mpr ⟨⟨rfl, rfl⟩, List.forall_mem_cons.mpr ⟨⟨rfl, rfl⟩, List.forall_mem_cons.mpr ⟨⟨rfl, rfl⟩, List.forall_mem_cons.mpr ⟨⟨rfl, rfl⟩, List.forall_mem_cons.mpr ⟨⟨rfl, rfl⟩, List.forall_mem_cons.mpr ⟨⟨rfl, rfl⟩, List.forall_mem_cons.mpr ⟨⟨rfl, rfl⟩, List.forall_mem_cons.mpr ⟨⟨rfl, rfl⟩, List.forall_mem_cons.mpr ⟨⟨rfl, rfl⟩, List.forall_mem_cons.mpr ⟨⟨rfl, rfl⟩, List.forall_mem_cons.mpr ⟨⟨rfl, rfl⟩, List.forall_mem_cons.mpr ⟨⟨rfl, rfl⟩, fun _ h => absurd h List.not_mem_nil⟩⟩⟩⟩⟩⟩⟩⟩⟩⟩⟩⟩⟩⟩⟩⟩⟩⟩⟩⟩
theorem mcl_4_nm : ∀ q ∈ mcl_4, (plainName (mnm q.1).cls && decide ((mnm q.1).cls ≠ "java/lang/invoke/MethodHandle") && decide ((mnm q.1).cls ≠ "java/lang/invoke/VarHandle")) = true := by decide +kernel
def mcl_5 : List (Nat × Nat) := [(100, 5052), (101, 5077), (102, 5097), (103, 5168), (104, 6148), (105, 5225), (106, 5056), (107, 6005), (108, 5109), (109, 5035), (110, 6108), (111, 5122), (112, 6047), (113, 6104), (114, 5105), (115, 6129), (116, 6095), (117, 5031), (118, 6028), (119, 5118)]
set_option maxRecDepth 100000 in
theorem mcl_5_ok : ∀ q ∈ mcl_5, wat q.2 = some (mcw q.1) ∧ goodWord (mcw q.1) = true := List.forall_mem_cons.mpr ⟨⟨rfl, rfl⟩, List.forall_mem_cons.mpr ⟨⟨rfl, rfl⟩, List.forall_mem_cons.mpr ⟨⟨rfl, rfl⟩, List.forall_mem_cons.mpr ⟨⟨rfl, rfl⟩, List.forall_mem_cons.mpr ⟨⟨rfl, rfl⟩, List.forall_mem_cons.mpr ⟨⟨rfl, rfl⟩, List.forall_mem_cons.mpr ⟨⟨rfl, rfl⟩, List.forall_mem_cons.mpr ⟨⟨rfl, rfl⟩, List.forall_mem_cons.mpr ⟨⟨rfl, rfl⟩, List.forall_mem_cons.mpr ⟨⟨rfl, rfl⟩, List.forall_mem_cons.mpr ⟨⟨rfl, rfl⟩, List.forall_mem_cons.mpr ⟨⟨rfl, rfl⟩, List.forall_mem_cons.mpr ⟨⟨rfl, rfl⟩, List.forall_mem_cons.mpr ⟨⟨rfl, rfl⟩, List.forall_mem_cons.mpr ⟨⟨rfl, rfl⟩, List.forall_mem_cons.mpr ⟨⟨rfl, rfl⟩, List.forall_mem_cons.mpr ⟨⟨rfl, rfl⟩, List.forall_mem_cons.mpr ⟨⟨rfl, rfl⟩, List.forall_mem_cons.mpr ⟨⟨rfl, rfl⟩, List.forall_mem_cons.mpr ⟨⟨rfl, rfl⟩, fun _ h => absurd h List.not_mem_nil⟩⟩⟩⟩⟩⟩⟩⟩⟩⟩⟩⟩⟩⟩⟩⟩⟩⟩⟩⟩
theorem mcl_5_nm : ∀ q ∈ mcl_5, (plainName (mnm q.1).cls && decide ((mnm q.1).cls ≠ "java/lang/invoke/MethodHandle") && decide ((mnm q.1).cls ≠ "java/lang/invoke/VarHandle")) = true := by decide +kernel
def mcl_6 : List (Nat × Nat) := [(120, 4198), (121, 5156), (122, 6038), (123, 3090), (124, 6117), (125, 6001), (126, 5015), (127, 5139), (128, 5131), (129, 3095), (130, 6136), (131, 6140), (132, 3104), (133, 8181), (134, 8185), (135, 8041), (136, 7159), (137, 6181), (138, 8125), (139, 8121)]
set_option maxRecDepth 100000 in
theorem mcl_6_ok : ∀ q ∈ mcl_6, wat q.2 = some (mcw q.1) ∧ goodWord (mcw q.1) = true := List.forall_mem_cons.mpr ⟨⟨rfl, rfl⟩, List.forall_mem_cons.mpr ⟨⟨rfl, rfl⟩, List.forall_mem_cons.mpr ⟨⟨rfl, rfl⟩, List.forall_mem_cons.mpr ⟨⟨rfl, rfl⟩, List.forall_mem_cons.mpr ⟨⟨rfl, rfl⟩, List.forall_mem_cons.mpr ⟨⟨rfl, rfl⟩, List.forall_mem_cons.mpr ⟨⟨rfl, rfl⟩, List.forall_mem_cons.mpr ⟨⟨rfl, rfl⟩, List.forall_mem_cons.mpr ⟨⟨rfl, rfl⟩, List.forall_mem_cons.mpr ⟨⟨rfl, rfl⟩, List.forall_mem_cons.mpr ⟨⟨rfl, rfl⟩, List.forall_mem_cons.mpr ⟨⟨rfl, rfl⟩, List.forall_mem_cons.mpr ⟨⟨rfl, rfl⟩, List.forall_mem_cons.mpr ⟨⟨rfl, rfl⟩, List.forall_mem_cons.mpr ⟨⟨rfl, rfl⟩, List.forall_mem_cons.mpr ⟨⟨rfl, rfl⟩, List.forall_mem_cons.mpr ⟨⟨rfl, rfl⟩, List.forall_mem_cons.mpr ⟨⟨rfl, rfl⟩, List.forall_mem_cons.mpr ⟨⟨rfl, rfl⟩, List.forall_mem_cons.mpr ⟨⟨rfl, rfl⟩, fun _ h => absurd h List.not_mem_nil⟩⟩⟩⟩⟩⟩⟩⟩⟩⟩⟩⟩⟩⟩⟩⟩⟩⟩⟩⟩
theorem mcl_6_nm : ∀ q ∈ mcl_6, (plainName (mnm q.1).cls && decide ((mnm q.1).cls ≠ "java/lang/invoke/MethodHandle") && decide ((mnm q.1).cls ≠ "java/lang/invoke/VarHandle")) = true := by decide +kernel
def mcl_7 : List (Nat × Nat) := [(140, 8117), (141, 8002), (142, 6188), (143, 8053), (144, 7226), (145, 8141), (146, 8013), (147, 8189), (148, 8029), (149, 8033), (150, 7091), (151, 8109), (152, 7046), (153, 7054), (154, 8165), (155, 8149), (156, 7179), (157, 7238), (158, 7234), (159, 8137)]
set_option maxRecDepth 100000 in
theorem mcl_7_ok : ∀ q ∈ mcl_7, wat q.2 = some (mcw q.1) ∧ goodWord (mcw q.1) = true := List.forall_mem_cons.mpr ⟨⟨rfl, rfl⟩, List.forall_mem_cons.mpr ⟨⟨rfl, rfl⟩, List.forall_mem_cons.mpr ⟨⟨rfl, rfl⟩, List.forall_mem_cons.mpr ⟨⟨rfl, rfl⟩, List.forall_mem_cons.mpr ⟨⟨rfl, rfl⟩, List.forall_mem_cons.mpr ⟨⟨rfl, rfl⟩, List.forall_mem_cons.mpr ⟨⟨rfl, rfl⟩, List.forall_mem_cons.mpr ⟨⟨rfl, rfl⟩, List.forall_mem_cons.mpr ⟨⟨rfl, rfl⟩, List.forall_mem_cons.mpr ⟨⟨rfl, rfl⟩, List.forall_mem_cons.mpr ⟨⟨rfl, rfl⟩, List.forall_mem_cons.mpr ⟨⟨rfl, rfl⟩, List.forall_mem_cons.mpr ⟨⟨rfl, rfl⟩, List.forall_mem_cons.mpr ⟨⟨rfl, rfl⟩, List.forall_mem_cons.mpr ⟨⟨rfl, rfl⟩, List.forall_mem_cons.mpr ⟨⟨rfl, rfl⟩, List.forall_mem_cons.mpr ⟨⟨rfl, rfl⟩, List.forall_mem_cons.mpr ⟨⟨rfl, rfl⟩, List.forall_mem_cons.mpr ⟨⟨rfl, rfl⟩, List.forall_mem_cons.mpr ⟨⟨rfl, rfl⟩, fun _ h => absurd h List.not_mem_nil⟩⟩⟩⟩⟩⟩⟩⟩⟩⟩⟩⟩⟩⟩⟩⟩⟩⟩⟩⟩
theorem mcl_7_nm : ∀ q ∈ mcl_7, (plainName (mnm q.1).cls && decide ((mnm q.1).cls ≠ "java/lang/invoke/MethodHandle") && decide ((mnm q.1).cls ≠ "java/lang/invoke/VarHandle")) = true := by decide +kernel
def mcl_8 : List (Nat × Nat) := [(160, 8093), (161, 7103), (162, 7099), (163, 7065), (164, 6176), (165, 7171), (166, 7083), (167, 7087), (168, 7080), (169, 7183), (170, 8061), (171, 7119), (172, 7151), (173, 7175), (174, 8081), (175, 8089), (176, 6195), (177, 7230), (178, 8069), (179, 8129)]
set_option maxRecDepth 100000 in
theorem mcl_8_ok : ∀ q ∈ mcl_8, wat q.2 = some (mcw q.1) ∧ goodWord (mcw q.1) = true := List.forall_mem_cons.mpr ⟨⟨rfl, rfl⟩, List.forall_mem_cons.mpr ⟨⟨rfl, rfl⟩, List.forall_mem_cons.mpr ⟨⟨rfl, rfl⟩, List.forall_mem_cons.mpr ⟨⟨rfl, rfl⟩, List.forall_mem_cons.mpr ⟨⟨rfl, rfl⟩, List.forall_mem_cons.mpr ⟨⟨rfl, rfl⟩, List.forall_mem_cons.mpr ⟨⟨rfl, rfl⟩, List.forall_mem_cons.mpr ⟨⟨rfl, rfl⟩, List.forall_mem_cons.mpr ⟨⟨rfl, rfl⟩, List.forall_mem_cons.mpr ⟨⟨rfl, rfl⟩, List.forall_mem_cons.mpr ⟨⟨rfl, rfl⟩, List.forall_mem_cons.mpr ⟨⟨rfl, rfl⟩, List.forall_mem_cons.mpr ⟨⟨rfl, rfl⟩, List.forall_mem_cons.mpr ⟨⟨rfl, rfl⟩, List.forall_mem_cons.mpr ⟨⟨rfl, rfl⟩, List.forall_mem_cons.mpr ⟨⟨rfl, rfl⟩, List.forall_mem_cons.mpr ⟨⟨rfl, rfl⟩, List.forall_mem_cons.mpr ⟨⟨rfl, rfl⟩, List.forall_mem_cons.mpr ⟨⟨rfl, rfl⟩, List.forall_mem_cons.mpr ⟨⟨rfl, rfl⟩, fun _ h => absurd h List.not_mem_nil⟩⟩⟩⟩⟩⟩⟩⟩⟩⟩⟩⟩⟩⟩⟩⟩⟩⟩⟩⟩
theorem mcl_8_nm : ∀ q ∈ mcl_8, (plainName (mnm q.1).cls && decide ((mnm q.1).cls ≠ "java/lang/invoke/MethodHandle") && decide ((mnm q.1).cls ≠ "java/lang/invoke/VarHandle")) = true := by decide +kernel
def mcl_9 : List (Nat × Nat) := [(180, 8133), (181, 7062), (182, 7143), (183, 6184), (184, 8045), (185, 8057), (186, 7123), (187, 8073), (188, 7077), (189, 8229), (190, 8153), (191, 7139), (192, 6202), (193, 7202), (194, 7218), (195, 7069), (196, 8025), (197, 7107), (198, 7115), (199, 7135)]
set_option maxRecDepth 100000 in
theorem mcl_9_ok : ∀ q ∈ mcl_9, wat q.2 = some (mcw q.1) ∧ goodWord (mcw q.1) = true := List.forall_mem_cons.mpr ⟨⟨rfl, rfl⟩, List.forall_mem_cons.mpr ⟨⟨rfl, rfl⟩, List.forall_mem_cons.mpr ⟨⟨rfl, rfl⟩, List.forall_mem_cons.mpr ⟨⟨rfl, rfl⟩, List.forall_mem_cons.mpr ⟨⟨rfl, rfl⟩, List.forall_mem_cons.mpr ⟨⟨rfl, rfl⟩, List.forall_mem_cons.mpr ⟨⟨rfl, rfl⟩, List.forall_mem_cons.mpr ⟨⟨rfl, rfl⟩, List.forall_mem_cons.mpr ⟨⟨rfl, rfl⟩, List.forall_mem_cons.mpr ⟨⟨rfl, rfl⟩, List.forall_mem_cons.mpr ⟨⟨rfl, rfl⟩, List.forall_mem_cons.mpr ⟨⟨rfl, rfl⟩, List.forall_mem_cons.mpr ⟨⟨rfl, rfl⟩, List.forall_mem_cons.mpr ⟨⟨rfl, rfl⟩, List.forall_mem_cons.mpr ⟨⟨rfl, rfl⟩, List.forall_mem_cons.mpr ⟨⟨rfl, rfl⟩, List.forall_mem_cons.mpr ⟨⟨rfl, rfl⟩, List.forall_mem_cons.mpr ⟨⟨rfl, rfl⟩, List.forall_mem_cons.mpr ⟨⟨rfl, rfl⟩, List.forall_mem_cons.mpr ⟨⟨rfl, rfl⟩, fun _ h => absurd h List.not_mem_nil⟩⟩⟩⟩⟩⟩⟩⟩⟩⟩⟩⟩⟩⟩⟩⟩⟩⟩⟩⟩
theorem mcl_9_nm : ∀ q ∈ mcl_9, (plainName (mnm q.1).cls && decide ((mnm q.1).cls ≠ "java/lang/invoke/MethodHandle") && decide ((mnm q.1).cls ≠ "java/lang/invoke/VarHandle")) = true := by decide +kernel
def mcl_10 : List (Nat × Nat) := [(200, 8017), (201, 7127), (202, 7111), (203, 7073), (204, 7163), (205, 7050), (206, 8157), (207, 8177), (208, 8197), (209, 8021), (210, 7206), (211, 6191), (212, 8077), (213, 7198), (214, 8205), (215, 8193), (216, 8049), (217, 7214), (218, 8169), (219, 8085)]
set_option maxRecDepth 100000 in
theorem mcl_10_ok : ∀ q ∈ mcl_10, wat q.2 = some (mcw q.1) ∧ goodWord (mcw q.1) = true := List.forall_mem_cons.mpr ⟨⟨rfl, rfl⟩, List.forall_mem_cons.mpr ⟨⟨rfl, rfl⟩, List.forall_mem_cons.mpr ⟨⟨rfl, rfl⟩, List.forall_mem_cons.mpr ⟨⟨rfl, rfl⟩, List.forall_mem_cons.mpr ⟨⟨rfl, rfl⟩, List.forall_mem_cons.mpr ⟨⟨rfl, rfl⟩, List.forall_mem_cons.mpr ⟨⟨rfl, rfl⟩, List.forall_mem_cons.mpr ⟨⟨rfl, rfl⟩, List.forall_mem_cons.mpr ⟨⟨rfl, rfl⟩, List.forall_mem_cons.mpr ⟨⟨rfl, rfl⟩, List.forall_mem_cons.mpr ⟨⟨rfl, rfl⟩, List.forall_mem_cons.mpr ⟨⟨rfl, rfl⟩, List.forall_mem_cons.mpr ⟨⟨rfl, rfl⟩, List.forall_mem_cons.mpr ⟨⟨rfl, rfl⟩, List.forall_mem_cons.mpr ⟨⟨rfl, rfl⟩, List.forall_mem_cons.mpr ⟨⟨rfl, rfl⟩, List.forall_mem_cons.mpr ⟨⟨rfl, rfl⟩, List.forall_mem_cons.mpr ⟨⟨rfl, rfl⟩, List.forall_mem_cons.mpr ⟨⟨rfl, rfl⟩, List.forall_mem_cons.mpr ⟨⟨rfl, rfl⟩, fun _ h => absurd h List.not_mem_nil⟩⟩⟩⟩⟩⟩⟩⟩⟩⟩⟩⟩⟩⟩⟩⟩⟩⟩⟩⟩
theorem mcl_10_nm : ∀ q ∈ mcl_10, (plainName (mnm q.1).cls && decide ((mnm q.1).cls ≠ "java/lang/invoke/MethodHandle") && decide ((mnm q.1).cls ≠ "java/lang/invoke/VarHandle")) = true := by decide +kernel
def mcl_11 : List (Nat × Nat) := [(220, 6198), (221, 7095), (222, 7131), (223, 7042), (224, 7187), (225, 8113), (226, 7210), (227, 7058), (228, 8173), (229, 8105), (230, 7167), (231, 7194), (232, 8201), (233, 8161), (234, 8037), (235, 7155), (236, 7147), (237, 8009), (238, 8006), (239, 8101)]
set_option maxRecDepth 100000 in
theorem mcl_11_ok : ∀ q ∈ mcl_11, wat q.2 = some (mcw q.1) ∧ goodWord (mcw q.1) = true := List.forall_mem_cons.mpr ⟨⟨rfl, rfl⟩, List.forall_mem_cons.mpr ⟨⟨rfl, rfl⟩, List.forall_mem_cons.mpr ⟨⟨rfl, rfl⟩, List.forall_mem_cons.mpr ⟨⟨rfl, rfl⟩, List.forall_mem_cons.mpr ⟨⟨rfl, rfl⟩, List.forall_mem_cons.mpr ⟨⟨rfl, rfl⟩, List.forall_mem_cons.mpr ⟨⟨rfl, rfl⟩, List.forall_mem_cons.mpr ⟨⟨rfl, rfl⟩, List.forall_mem_cons.mpr ⟨⟨rfl, rfl⟩, List.forall_mem_cons.mpr ⟨⟨rfl, rfl⟩, List.forall_mem_cons.mpr ⟨⟨rfl, rfl⟩, List.forall_mem_cons.mpr ⟨⟨rfl, rfl⟩, List.forall_mem_cons.mpr ⟨⟨rfl, rfl⟩, List.forall_mem_cons.mpr ⟨⟨rfl, rfl⟩, List.forall_mem_cons.mpr ⟨⟨rfl, rfl⟩, List.forall_mem_cons.mpr ⟨⟨rfl, rfl⟩, List.forall_mem_cons.mpr ⟨⟨rfl, rfl⟩, List.forall_mem_cons.mpr ⟨⟨rfl, rfl⟩, List.forall_mem_cons.mpr ⟨⟨rfl, rfl⟩, List.forall_mem_cons.mpr ⟨⟨rfl, rfl⟩, fun _ h => absurd h List.not_mem_nil⟩⟩⟩⟩⟩⟩⟩⟩⟩⟩⟩⟩⟩⟩⟩⟩⟩⟩⟩⟩
theorem mcl_11_nm : ∀ q ∈ mcl_11, (plainName (mnm q.1).cls && decide ((mnm q.1).cls ≠ "java/lang/invoke/MethodHandle") && decide ((mnm q.1).cls ≠ "java/lang/invoke/VarHandle")) = true := by decide +kernel
def mcl_12 : List (Nat × Nat) := [(240, 8097), (241, 7190), (242, 7222), (243, 8145), (244, 8065), (245, 8209), (246, 8225), (247, 8213), (248, 8221), (249, 8217), (250, 6057), (251, 6068), (252, 5172), (253, 5159), (254, 5039), (255, 5206), (256, 6079), (257, 5145), (258, 4207), (259, 6010)]
set_option maxRecDepth 100000 in
theorem mcl_12_ok : ∀ q ∈ mcl_12, wat q.2 = some (mcw q.1) ∧ goodWord (mcw q.1) = true := List.forall_mem_cons.mpr ⟨⟨rfl, rfl⟩, List.forall_mem_cons.mpr ⟨⟨rfl, rfl⟩, List.forall_mem_cons.mpr ⟨⟨rfl, rfl⟩, List.forall_mem_cons.mpr ⟨⟨rfl, rfl⟩, List.forall_mem_cons.mpr ⟨⟨rfl, rfl⟩, List.forall_mem_cons.mpr ⟨⟨rfl, rfl⟩, List.forall_mem_cons.mpr ⟨⟨rfl, rfl⟩, List.forall_mem_cons.mpr ⟨⟨rfl, rfl⟩, List.forall_mem_cons.mpr ⟨⟨rfl, rfl⟩, List.forall_mem_cons.mpr ⟨⟨rfl, rfl⟩, List.forall_mem_cons.mpr ⟨⟨rfl, rfl⟩, List.forall_mem_cons.mpr ⟨⟨rfl, rfl⟩, List.forall_mem_cons.mpr ⟨⟨rfl, rfl⟩, List.forall_mem_cons.mpr ⟨⟨rfl, rfl⟩, List.forall_mem_cons.mpr ⟨⟨rfl, rfl⟩, List.forall_mem_cons.mpr ⟨⟨rfl, rfl⟩, List.forall_mem_cons.mpr ⟨⟨rfl, rfl⟩, List.forall_mem_cons.mpr ⟨⟨rfl, rfl⟩, List.forall_mem_cons.mpr ⟨⟨rfl, rfl⟩, List.forall_mem_cons.mpr ⟨⟨rfl, rfl⟩, fun _ h => absurd h List.not_mem_nil⟩⟩⟩⟩⟩⟩⟩⟩⟩⟩⟩⟩⟩⟩⟩⟩⟩⟩⟩⟩
theorem mcl_12_nm : ∀ q ∈ mcl_12, (plainName (mnm q.1).cls && decide ((mnm q.1).cls ≠ "java/lang/invoke/MethodHandle") && decide ((mnm q.1).cls ≠ "java/lang/invoke/VarHandle")) = true := by decide +kernel
def mcl_13 : List (Nat × Nat) := [(260, 5214), (261, 5199), (262, 5188), (263, 4235), (264, 5047), (265, 5093), (266, 6143), (267, 5221), (268, 6043), (269, 6100), (270, 5101), (271, 6125), (272, 6091), (273, 5027), (274, 6024), (275, 5114), (276, 5152), (277, 6034), (278, 6113), (279, 5237)]
set_option maxRecDepth 100000 in
theorem mcl_13_ok : ∀ q ∈ mcl_13, wat q.2 = some (mcw q.1) ∧ goodWord (mcw q.1) = true := List.forall_mem_cons.mpr ⟨⟨rfl, rfl⟩, List.forall_mem_cons.mpr ⟨⟨rfl, rfl⟩, List.forall_mem_cons.mpr ⟨⟨rfl, rfl⟩, List.forall_mem_cons.mpr ⟨⟨rfl, rfl⟩, List.forall_mem_cons.mpr ⟨⟨rfl, rfl⟩, List.forall_mem_cons.mpr ⟨⟨rfl, rfl⟩, List.forall_mem_cons.mpr ⟨⟨rfl, rfl⟩, List.forall_mem_cons.mpr ⟨⟨rfl, rfl⟩, List.forall_mem_cons.mpr ⟨⟨rfl, rfl⟩, List.forall_mem_cons.mpr ⟨⟨rfl, rfl⟩, List.forall_mem_cons.mpr ⟨⟨rfl, rfl⟩, List.forall_mem_cons.mpr ⟨⟨rfl, rfl⟩, List.forall_mem_cons.mpr ⟨⟨rfl, rfl⟩, List.forall_mem_cons.mpr ⟨⟨rfl, rfl⟩, List.forall_mem_cons.mpr ⟨⟨rfl, rfl⟩, List.forall_mem_cons.mpr ⟨⟨rfl, rfl⟩, List.forall_mem_cons.mpr ⟨⟨rfl, rfl⟩, List.forall_mem_cons.mpr ⟨⟨rfl, rfl⟩, List.forall_mem_cons.mpr ⟨⟨rfl, rfl⟩, List.forall_mem_cons.mpr ⟨⟨rfl, rfl⟩, fun _ h => absurd h List.not_mem_nil⟩⟩⟩⟩⟩⟩⟩⟩⟩⟩⟩⟩⟩⟩⟩⟩⟩⟩⟩⟩
theorem mcl_13_nm : ∀ q ∈ mcl_13, (plainName (mnm q.1).cls && decide ((mnm q.1).cls ≠ "java/lang/invoke/MethodHandle") && decide ((mnm q.1).cls ≠ "java/lang/invoke/VarHandle")) = true := by decide +kernel
def mcl_14 : List (Nat × Nat) := [(280, 5011), (281, 5135), (282, 5127), (283, 6132), (284, 1159), (285, 3173), (286, 3205), (287, 1169), (288, 1153), (289, 3212), (290, 4008), (291, 4011), (292, 1163), (293, 1149), (294, 4191), (295, 1166), (296, 4145), (297, 3196), (298, 1177), (299, 3170)]
set_option maxRecDepth 100000 in
theorem mcl_14_ok : ∀ q ∈ mcl_14, wat q.2 = some (mcw q.1) ∧ goodWord (mcw q.1) = true := List.forall_mem_cons.mpr ⟨⟨rfl, rfl⟩, List.forall_mem_cons.mpr ⟨⟨rfl, rfl⟩, List.forall_mem_cons.mpr ⟨⟨rfl, rfl⟩, List.forall_mem_cons.mpr ⟨⟨rfl, rfl⟩, List.forall_mem_cons.mpr ⟨⟨rfl, rfl⟩, List.forall_mem_cons.mpr ⟨⟨rfl, rfl⟩, List.forall_mem_cons.mpr ⟨⟨rfl, rfl⟩, List.forall_mem_cons.mpr ⟨⟨rfl, rfl⟩, List.forall_mem_cons.mpr ⟨⟨rfl, rfl⟩, List.forall_mem_cons.mpr ⟨⟨rfl, rfl⟩, List.forall_mem_cons.mpr ⟨⟨rfl, rfl⟩, List.forall_mem_cons.mpr ⟨⟨rfl, rfl⟩, List.forall_mem_cons.mpr ⟨⟨rfl, rfl⟩, List.forall_mem_cons.mpr ⟨⟨rfl, rfl⟩, List.forall_mem_cons.mpr ⟨⟨rfl, rfl⟩, List.forall_mem_cons.mpr ⟨⟨rfl, rfl⟩, List.forall_mem_cons.mpr ⟨⟨rfl, rfl⟩, List.forall_mem_cons.mpr ⟨⟨rfl, rfl⟩, List.forall_mem_cons.mpr ⟨⟨rfl, rfl⟩, List.forall_mem_cons.mpr ⟨⟨rfl, rfl⟩, fun _ h => absurd h List.not_mem_nil⟩⟩⟩⟩⟩⟩⟩⟩⟩⟩⟩⟩⟩⟩⟩⟩⟩⟩⟩⟩
theorem mcl_14_nm : ∀ q ∈ mcl_14, (plainName (mnm q.1).cls && decide ((mnm q.1).cls ≠ "java/lang/invoke/MethodHandle") && decide ((mnm q.1).cls ≠ "java/lang/invoke/VarHandle")) = true := by decide +kernel
def mcl_15 : List (Nat × Nat) := [(300, 3202), (301, 1180), (302, 4120), (303, 4113), (304, 4116), (305, 4180), (306, 1187), (307, 3234), (308, 3237), (309, 3199), (310, 1183), (311, 3018), (312, 3021), (313, 4194), (314, 3179), (315, 3167), (316, 3208), (317, 3176), (318, 1174), (319, 3123)]
set_option maxRecDepth 100000 in
theorem mcl_15_ok : ∀ q ∈ mcl_15, wat q.2 = some (mcw q.1) ∧ goodWord (mcw q.1) = true := List.forall_mem_cons.mpr ⟨⟨rfl, rfl⟩, List.forall_mem_cons.mpr ⟨⟨rfl, rfl⟩, List.forall_mem_cons.mpr ⟨⟨rfl, rfl⟩, List.forall_mem_cons.mpr ⟨⟨rfl, rfl⟩, List.forall_mem_cons.mpr ⟨⟨rfl, rfl⟩, List.forall_mem_cons.mpr ⟨⟨rfl, rfl⟩, List.forall_mem_cons.mpr ⟨⟨rfl, rfl⟩, List.forall_mem_cons.mpr ⟨⟨rfl, rfl⟩, List.forall_mem_cons.mpr ⟨⟨rfl, rfl⟩, List.forall_mem_cons.mpr ⟨⟨rfl, rfl⟩, List.forall_mem_cons.mpr ⟨⟨rfl, rfl⟩, List.forall_mem_cons.mpr ⟨⟨rfl, rfl⟩, List.forall_mem_cons.mpr ⟨⟨rfl, rfl⟩, List.forall_mem_cons.mpr ⟨⟨rfl, rfl⟩, List.forall_mem_cons.mpr ⟨⟨rfl, rfl⟩, List.forall_mem_cons.mpr ⟨⟨rfl, rfl⟩, List.forall_mem_cons.mpr ⟨⟨rfl, rfl⟩, List.forall_mem_cons.mpr ⟨⟨rfl, rfl⟩, List.forall_mem_cons.mpr ⟨⟨rfl, rfl⟩, List.forall_mem_cons.mpr ⟨⟨rfl, rfl⟩, fun _ h => absurd h List.not_mem_nil⟩⟩⟩⟩⟩⟩⟩⟩⟩⟩⟩⟩⟩⟩⟩⟩⟩⟩⟩⟩
theorem mcl_15_nm : ∀ q ∈ mcl_15, (plainName (mnm q.1).cls && decide ((mnm q.1).cls ≠ "java/lang/invoke/MethodHandle") && decide ((mnm q.1).cls ≠ "java/lang/invoke/VarHandle")) = true := by decide +kernel
def mcl_16 : List (Nat × Nat) := [(320, 3218), (321, 4185), (322, 6165), (323, 3010), (324, 4023), (325, 3108), (326, 4003), (327, 3130), (328, 4188), (329, 3221), (330, 3126), (331, 6168), (332, 3134), (333, 4017), (334, 3188), (335, 3193), (336, 3013), (337, 3164), (338, 4025), (339, 3138)]
set_option maxRecDepth 100000 in
theorem mcl_16_ok : ∀ q ∈ mcl_16, wat q.2 = some (mcw q.1) ∧ goodWord (mcw q.1) = true := List.forall_mem_cons.mpr ⟨⟨rfl, rfl⟩, List.forall_mem_cons.mpr ⟨⟨rfl, rfl⟩, List.forall_mem_cons.mpr ⟨⟨rfl, rfl⟩, List.forall_mem_cons.mpr ⟨⟨rfl, rfl⟩, List.forall_mem_cons.mpr ⟨⟨rfl, rfl⟩, List.forall_mem_cons.mpr ⟨⟨rfl, rfl⟩, List.forall_mem_cons.mpr ⟨⟨rfl, rfl⟩, List.forall_mem_cons.mpr ⟨⟨rfl, rfl⟩, List.forall_mem_cons.mpr ⟨⟨rfl, rfl⟩, List.forall_mem_cons.mpr ⟨⟨rfl, rfl⟩, List.forall_mem_cons.mpr ⟨⟨rfl, rfl⟩, List.forall_mem_cons.mpr ⟨⟨rfl, rfl⟩, List.forall_mem_cons.mpr ⟨⟨rfl, rfl⟩, List.forall_mem_cons.mpr ⟨⟨rfl, rfl⟩, List.forall_mem_cons.mpr ⟨⟨rfl, rfl⟩, List.forall_mem_cons.mpr ⟨⟨rfl, rfl⟩, List.forall_mem_cons.mpr ⟨⟨rfl, rfl⟩, List.forall_mem_cons.mpr ⟨⟨rfl, rfl⟩, List.forall_mem_cons.mpr ⟨⟨rfl, rfl⟩, List.forall_mem_cons.mpr ⟨⟨rfl, rfl⟩, fun _ h => absurd h List.not_mem_nil⟩⟩⟩⟩⟩⟩⟩⟩⟩⟩⟩⟩⟩⟩⟩⟩⟩⟩⟩⟩
theorem mcl_16_nm : ∀ q ∈ mcl_16, (plainName (mnm q.1).cls && decide ((mnm q.1).cls ≠ "java/lang/invoke/MethodHandle") && decide ((mnm q.1).cls ≠ "java/lang/invoke/VarHandle")) = true := by decide +kernel
def mcl_17 : List (Nat × Nat) := [(340, 3184), (341, 3111), (342, 2200), (343, 3227), (344, 3224), (345, 4035), (346, 4032), (347, 4029), (348, 3150), (349, 4148), (350, 4151), (351, 3146), (352, 3141), (352, 3141), (352, 3141), (352, 3141), (356, 4168), (357, 3116)]
set_option maxRecDepth 100000 in
theorem mcl_17_ok : ∀ q ∈ mcl_17, wat q.2 = some (mcw q.1) ∧ goodWord (mcw q.1) = true := List.forall_mem_cons.mpr ⟨⟨rfl, rfl⟩, List.forall_mem_cons.mpr ⟨⟨rfl, rfl⟩, List.forall_mem_cons.mpr ⟨⟨rfl, rfl⟩, List.forall_mem_cons.mpr ⟨⟨rfl, rfl⟩, List.forall_mem_cons.mpr ⟨⟨rfl, rfl⟩, List.forall_mem_cons.mpr ⟨⟨rfl, rfl⟩, List.forall_mem_cons.mpr ⟨⟨rfl, rfl⟩, List.forall_mem_cons.mpr ⟨⟨rfl, rfl⟩, List.forall_mem_cons.mpr ⟨⟨rfl, rfl⟩, List.forall_mem_cons.mpr ⟨⟨rfl, rfl⟩, List.forall_mem_cons.mpr ⟨⟨rfl, rfl⟩, List.forall_mem_cons.mpr ⟨⟨rfl, rfl⟩, List.forall_mem_cons.mpr ⟨⟨rfl, rfl⟩, List.forall_mem_cons.mpr ⟨⟨rfl, rfl⟩, List.forall_mem_cons.mpr ⟨⟨rfl, rfl⟩, List.forall_mem_cons.mpr ⟨⟨rfl, rfl⟩, List.forall_mem_cons.mpr ⟨⟨rfl, rfl⟩, List.forall_mem_cons.mpr ⟨⟨rfl, rfl⟩, fun _ h => absurd h List.not_mem_nil⟩⟩⟩⟩⟩⟩⟩⟩⟩⟩⟩⟩⟩⟩⟩⟩⟩⟩
theorem mcl_17_nm : ∀ q ∈ mcl_17, (plainName (mnm q.1).cls && decide ((mnm q.1).cls ≠ "java/lang/invoke/MethodHandle") && decide ((mnm q.1).cls ≠ "java/lang/invoke/VarHandle")) = true := by decide +kernel
def mcl : List (Nat × Nat) := mcl_0 ++ (mcl_1 ++ (mcl_2 ++ (mcl_3 ++ (mcl_4 ++ (mcl_5 ++ (mcl_6 ++ (mcl_7 ++ (mcl_8 ++ (mcl_9 ++ (mcl_10 ++ (mcl_11 ++ (mcl_12 ++ (mcl_13 ++ (mcl_14 ++ (mcl_15 ++ (mcl_16 ++ (mcl_17)))))))))))))))))
theorem mcl_ok : ∀ q ∈ mcl, (wat q.2 = some (mcw q.1) ∧ goodWord (mcw q.1) = true) ∧ (plainName (mnm q.1).cls && decide ((mnm q.1).cls ≠ "java/lang/invoke/MethodHandle") && decide ((mnm q.1).cls ≠ "java/lang/invoke/VarHandle")) = true := by
  intro q hq
  unfold mcl at hq
  rcases List.mem_append.mp hq with hq | hq
  · exact ⟨mcl_0_ok q hq, mcl_0_nm q hq⟩
  rcases List.mem_append.mp hq with hq | hq
  · exact ⟨mcl_1_ok q hq, mcl_1_nm q hq⟩
  rcases List.mem_append.mp hq with hq | hq
  · exact ⟨mcl_2_ok q hq, mcl_2_nm q hq⟩
  rcases List.mem_append.mp hq with hq | hq
  · exact ⟨mcl_3_ok q hq, mcl_3_nm q hq⟩
  rcases List.mem_append.mp hq with hq | hq
  · exact ⟨mcl_4_ok q hq, mcl_4_nm q hq⟩
  rcases List.mem_append.mp hq with hq | hq
  · exact ⟨mcl_5_ok q hq, mcl_5_nm q hq⟩
  rcases List.mem_append.mp hq with hq | hq
  · exact ⟨mcl_6_ok q hq, mcl_6_nm q hq⟩
  rcases List.mem_append.mp hq with hq | hq
  · exact ⟨mcl_7_ok q hq, mcl_7_nm q hq⟩
  rcases List.mem_append.mp hq with hq | hq
  · exact ⟨mcl_8_ok q hq, mcl_8_nm q hq⟩
  rcases List.mem_append.mp hq with hq | hq
  · exact ⟨mcl_9_ok q hq, mcl_9_nm q hq⟩
  rcases List.mem_append.mp hq with hq | hq
  · exact ⟨mcl_10_ok q hq, mcl_10_nm q hq⟩
  rcases List.mem_append.mp hq with hq | hq
  · exact ⟨mcl_11_ok q hq, mcl_11_nm q hq⟩
  rcases List.mem_append.mp hq with hq | hq
  · exact ⟨mcl_12_ok q hq, mcl_12_nm q hq⟩
  rcases List.mem_append.mp hq with hq | hq
  · exact ⟨mcl_13_ok q hq, mcl_13_nm q hq⟩
  rcases List.mem_append.mp hq with hq | hq
  · exact ⟨mcl_14_ok q hq, mcl_14_nm q hq⟩
  rcases List.mem_append.mp hq with hq | hq
  · exact ⟨mcl_15_ok q hq, mcl_15_nm q hq⟩
  rcases List.mem_append.mp hq with hq | hq
  · exact ⟨mcl_16_ok q hq, mcl_16_nm q hq⟩
  exact ⟨mcl_17_ok q hq, mcl_17_nm q hq⟩
def mstrs : List (String × Nat × String) := [("MuleTrain", 12, "train 20 10 3; mule jen 100; mule moll 60; sack grain 30 40; sack cloth 20 60; sack iron 50 30; sack glass 10 90; sack grain 25 20; road 40; ford 5; camp 8; pack 0 jen left; pack 3 jen right; pack 1 moll left"), ("MuleTrain$Parser", 120, "train"), ("MuleTrain$Parser", 58, "mule"), ("MuleTrain$Parser", 67, "sack"), ("MuleTrain$Parser", 203, "grain"), ("MuleTrain$Parser", 205, "cloth"), ("MuleTrain$Parser", 207, "iron"), ("MuleTrain$Parser", 209, "glass"), ("MuleTrain$Parser", 72, "road"), ("MuleTrain$Parser", 77, "ford"), ("MuleTrain$Parser", 79, "camp"), ("MuleTrain$Parser", 81, "pack"), ("MuleTrain$Parser", 211, "left"), ("MuleTrain$Parser", 213, "right"), ("MuleTrain$Parser", 86, "rest"), ("MuleTrain$Parser", 91, "trip"), ("java/lang/StringIndexOutOfBoundsException", 13, "String index out of range: "), ("java/util/Arrays", 337, " > "), ("java/util/Arrays", 48, "fromIndex("), ("java/util/Arrays", 57, ") > toIndex("), ("java/util/Arrays", 59, ")"), ("java/lang/ArrayIndexOutOfBoundsException", 13, "Array index out of range: "), ("MuleTrain", 368, "road"), ("MuleTrain", 370, "ford"), ("MuleTrain", 372, "camp"), ("MuleTrain", 84, "the input buffer is full"), ("MuleTrain", 93, "the length is out of range"), ("MuleTrain", 99, "the text has an error"), ("MuleTrain", 138, "there is no such value"), ("MuleTrain", 362, "there is no such setting"), ("MuleTrain", 146, "there is no such count"), ("MuleTrain", 355, "there is no such mule"), ("MuleTrain", 154, "mules have no such number"), ("MuleTrain", 358, "there is no such sack"), ("MuleTrain", 188, "sacks have no such number"), ("MuleTrain", 360, "there is no such stage"), ("MuleTrain", 193, "stages have no such number"), ("MuleTrain", 207, "the depth is out of range"), ("MuleTrain", 239, "there is no such side"), ("MuleTrain", 241, "the sack cannot be packed on this mule"), ("MuleTrain", 366, "the sack is on no mule"), ("MuleTrain", 272, "the trip cannot begin"), ("MuleTrain", 274, "the days are out of range"), ("MuleTrain", 276, "there are not so many days"), ("MuleTrain", 284, "there can be no such sack"), ("MuleTrain", 289, "there are too many sacks"), ("MuleTrain", 298, "there can be no such stage"), ("MuleTrain", 300, "there are too many stages"), ("MuleTrain", 311, "the value is out of range"), ("MuleTrain", 364, "there is no such slot"), ("MuleTrain", 316, "nothing is saved in this slot"), ("MuleTrain", 318, "no change can be undone"), ("MuleTrain", 346, "the output has no such byte")]
def mexn (x : Nat) : String := (bif Nat.blt x 2 then (bif Nat.blt x 1 then (bif Nat.beq x 0 then "java/lang/IllegalStateException" else "") else (bif Nat.beq x 1 then "java/lang/IllegalArgumentException" else "")) else (bif Nat.blt x 3 then (bif Nat.beq x 2 then "java/lang/IndexOutOfBoundsException" else "") else (bif Nat.beq x 3 then "java/util/NoSuchElementException" else "")))
def mws (k : Nat) : List Cond := mcw k :: wA
def mrm (d mc ms : Nat) : Room := { frames := d + 30, cells := mc, slots := ms, locals := 60 * d + 300 }
/-- what a throw and a text need -/
def mEx (adR : Nat → Nat) (A : Nat → Prop) (U : State) : Prop := vx_Zq Bundle.tN "UNASSIGNED_STACK" Bundle.steD A U U.heap ∧ vx_Zq Bundle.tN "SUPPRESSED_SENTINEL" Bundle.listD A U U.heap ∧ ∀ (i : Nat) (q : String × Nat × String), mstrs[i]? = some q → vk_R q.1 q.2.1 q.2.2 (adR (2 * i)) U
def mPre (dC : Nat → ClassId) (dI : Nat → Nat → Nat) (dA : Nat → ClassId) (adR ad : Nat → Nat) (RO W9 : List mE) (sz : Nat) (U : State) : Prop :=
  U.heap.size = sz ∧ va_P (dC, dI) vwCl (cw dA (mz adR ad) ad W9) U.heap ∧ va_K (dC, dI) vwCl (tyL dA) U ∧ va_D (fun _ => True) (cw dA (mz adR ad) ad W9) ∧ W9.length ≤ 1000000 ∧ wW W9.length W9 ∧ (∀ ad : Nat → Nat, va_P (dC, dI) vwCl (cwR dA (mz adR ad) adR RO) U.heap) ∧ (∀ j, j < RO.length → adR j < sz ∧ ∀ i, i < W9.length → ad i ≠ adR j) ∧ mEx adR (va_A (cw dA (mz adR ad) ad W9) sz) U
def mFin (dC : Nat → ClassId) (dI : Nat → Nat → Nat) (dA : Nat → ClassId) (adR ad : Nat → Nat) (n9 : Nat) (W' : List mE) (A : Nat → Prop) (ad' : Nat → Nat) (t : State) : Prop :=
  (∀ j, j < n9 → ad' j = ad j) ∧ va_P (dC, dI) vwCl (cw dA (mz adR ad') ad' W') t.heap ∧ va_D A (cw dA (mz adR ad') ad' W') ∧ W'.length ≤ 1000000 ∧ wW W'.length W' ∧ n9 ≤ W'.length
def mQr (dC : Nat → ClassId) (dI : Nat → Nat → Nat) (dA : Nat → ClassId) (adR ad : Nat → Nat) (n9 : Nat) (o : mO) (W' : List mE) (A : Nat → Prop) (oc : Outcome) (t : State) : Prop :=
  ∃ (v : Option Value) (ad' : Nat → Nat), o = .inl v ∧ oc = .returned (v.map (cz (mz adR ad'))) ∧ wv W'.length v.toList ∧ mFin dC dI dA adR ad n9 W' A ad' t
def mQx (dC : Nat → ClassId) (dI : Nat → Nat → Nat) (dA : Nat → ClassId) (adR ad : Nat → Nat) (n9 : Nat) (o : mO) (W' : List mE) (A : Nat → Prop) (E : String) (t : State) : Prop :=
  ∃ (x : Nat) (ad' : Nat → Nat), o = .inr x ∧ E = mexn x ∧ mFin dC dI dA adR ad n9 W' A ad' t
/-- the contract: from this world, with these arguments, that outcome and that world; so many cells and slots are new -/
def mCon (l : Launch) (RO : List mE) (k d : Nat) (as : List Value) (W9 : List mE) (o : mO) (W' : List mE) (mc ms : Nat) : Prop :=
  ∀ (dC : Nat → ClassId) (dI : Nat → Nat → Nat) (dA : Nat → ClassId) (adR ad : Nat → Nat) (sz : Nat), vx_Met l (mnm k) (mws k) (mrm d mc ms) (va_Pc (as.map (cz (mz adR ad))) (mPre dC dI dA adR ad RO W9 sz))
    (fun _ st oc t => mQr dC dI dA adR ad W9.length o W' (va_A (cw dA (mz adR ad) ad W9) sz) oc t ∧ va_F (va_A (cw dA (mz adR ad) ad W9) sz) st t)
    (fun E st t => mQx dC dI dA adR ad W9.length o W' (va_A (cw dA (mz adR ad) ad W9) sz) E t ∧ va_F (va_A (cw dA (mz adR ad) ad W9) sz) st t) mc ms (va_A (cw dA (mz adR ad) ad W9) sz)
/-- an exception is on its way -/
def mGoX (X : mX) (cells slots : Nat) (ad : Nat → Nat) (L r : List Value) (W9 : List mE) (pc : Nat) (x : Nat) : Prop := match X with
  | (p, l, e, R, s, m, args, below, meth, c, Q, A, dC, dI, dA, adR, RO, k) => ∀ (H : Heap) (locs : List Loc) (ls : Array Slot) (q9 : Addr) (ce : Cell), va_P (dC, dI) vwCl (cw dA (mz adR ad) ad W9) H → va_D A (cw dA (mz adR ad) ad W9) → va_S A s.heap H locs → W9.length ≤ 1000000 → wW W9.length W9 → wv W9.length L → wv W9.length r → lz (mz adR ad) ls (mml k) L →
    H[q9]? = some ce → ce.vm = .none → s.vm.findClass (mexn x) = some ce.cls → vx_W p l e R s m args below meth c H locs cells slots Q (F0 m pc ls (r.map (cz (mz adR ad)))) q9
def mL (X : mX) : Launch := X.2.1
/-- what holds besides, all along -/
def mCy (X : mX) : Prop := match X with
  | (p, l, e, R, s, m, args, below, meth, c, Q, A, dC, dI, dA, adR, RO, k) => mEx adR A s ∧ l.stackTraces = false ∧ c.exceptionTable.toList = tableOf (mhh k)
theorem mPre_blind {dC : Nat → ClassId} {dI : Nat → Nat → Nat} {dA : Nat → ClassId} {adR ad : Nat → Nat} {RO W9 : List mE} {sz : Nat} {as : List Value} : FrameBlind (va_Pc as (mPre dC dI dA adR ad RO W9 sz)) := by
  intro a U g mk h
  obtain ⟨h0, h1, h2, h3, h4, h5, h6, h7, h8, h9a, h9b, h9c⟩ := h
  exact ⟨h0, h1, h2, va_K.moved (u := U) (U := U.calling g mk a) (Vm.Alike.refl U.vm) h3, h4, h5, h6, h7, h8, vx_Zq.moved (u := U) (U := U.calling g mk a) (Vm.Alike.refl U.vm) h9a, vx_Zq.moved (u := U) (U := U.calling g mk a) (Vm.Alike.refl U.vm) h9b, fun i q hq => vk_R.same (u := U) (U := U.calling g mk a) rfl (h9c i q hq)⟩
theorem m_fc {A : Nat → Prop} {dA : Nat → ClassId} {z ad : Nat → Nat} {W9 : List mE} {s : State} {H : Heap} {locs : List Loc} (hD : va_D A (cw dA z ad W9)) (hS : va_S A s.heap H locs) (hA : ∀ q, s.heap.size ≤ q → A q) : ∀ q, va_A (cw dA z ad W9) H.size q → A q := by
  intro q h
  rcases h with ⟨j, e9, h⟩ | h
  · exact hD.2 j (q, e9) h
  · exact hA q (Nat.le_trans hS.1 h)
theorem mEx_moved {adR : Nat → Nat} {A B : Nat → Prop} {s U : State} (hW : s.WarmedH U.vm) (hq : ∀ a : Nat, a < s.heap.size → ¬ A a → U.heap[a]? = s.heap[a]?) (hAB : ∀ q, B q → A q) (h : mEx adR A s) : mEx adR B U :=
  ⟨(vx_Zq.moved hW.alike (h.1.kept hq)).narrow hAB, (vx_Zq.moved hW.alike (h.2.1.kept hq)).narrow hAB, fun i q hi => (h.2.2 i q hi).warm hW⟩
/-- what the caller hands over -/
theorem m_pre {X : mX} (hX : mCx X) (hY : mCy X) {ad : Nat → Nat} {as : List Value} {W9 : List mE} : match X with
    | (p, l, e, R, s, m, args, below, meth, c, Q, A, dC, dI, dA, adR, RO, k) => ∀ (H : Heap) (locs : List Loc), va_P (dC, dI) vwCl (cw dA (mz adR ad) ad W9) H → va_D A (cw dA (mz adR ad) ad W9) → va_S A s.heap H locs → W9.length ≤ 1000000 → wW W9.length W9 →
      PreS s H (va_Pc (as.map (cz (mz adR ad))) (mPre dC dI dA adR ad RO W9 H.size)) (as.map (cz (mz adR ad))) := by
  obtain ⟨p, l, e, R, s, m, args, below, meth, c, Q, A, dC, dI, dA, adR, RO, k⟩ := X
  obtain ⟨hx, hb, hml, hown, hwA, hA, hK, hRO, hROA, hlk, hrt, hfr, hlo, hini⟩ := hX
  intro H locs hP hD hS hn hw
  refine ⟨mPre_blind, fun U hU hW => ⟨rfl, by rw [hU], by rw [hU]; exact hP, va_K.moved hW.alike hK, hD.weaken (fun _ _ _ _ => trivial), hn, hw, fun ad9 => ?_, fun j hj => ⟨Nat.lt_of_lt_of_le (hROA j hj).1 hS.1, fun i hi he => ?_⟩, mEx_moved hW (by rw [hU]; exact hS.2.1) (m_fc hD hS hA) hY.1⟩⟩
  · rw [hU]
    refine (hRO ad9).kept (fun j y hj => ?_)
    rw [cwR, List.getElem?_mapIdx] at hj
    cases hr : RO[j]? with
    | none => rw [hr] at hj; cases hj
    | some e2 =>
      rw [hr] at hj
      cases hj
      have h9 := hROA j (List.getElem?_eq_some_iff.mp hr).1
      exact hS.2.1 _ h9.1 h9.2
  · refine (hROA j hj).2 ?_
    rw [← he]
    obtain ⟨e9, h9⟩ : ∃ e9, W9[i]? = some e9 := ⟨_, List.getElem?_eq_getElem hi⟩
    exact hD.2 i (ad i, czE dA (mz adR ad) e9) (by rw [cw_at, h9]; rfl)
/-- behind the call -/
theorem m_run {X : mX} (hX : mCx X) {cells slots mc ms pc : Nat} {ad : Nat → Nat} {L r : List Value} {st0 : List Value} {W9 W' : List mE} {o : mO} (hr9 : wv W9.length r)
    (kk : ∀ v, o = .inl v → ∀ ad' : Nat → Nat, (∀ j, j < W9.length → ad' j = ad j) → mGo X (cells + mc) (slots + ms) ad' L (v.toList ++ r) W' (pc + 3))
    (kx : ∀ x, o = .inr x → ∀ ad' : Nat → Nat, (∀ j, j < W9.length → ad' j = ad j) → mGoX X (cells + mc) (slots + ms) ad' L r W' pc x) : match X with
    | (p, l, e, R, s, m, args, below, meth, c, Q, A, dC, dI, dA, adR, RO, k) => ∀ (H : Heap) (locs : List Loc) (ls : Array Slot) (a : Array Value), va_P (dC, dI) vwCl (cw dA (mz adR ad) ad W9) H → va_D A (cw dA (mz adR ad) ad W9) → va_S A s.heap H locs → W9.length ≤ 1000000 → wW W9.length W9 → wv W9.length L → lz (mz adR ad) ls (mml k) L →
      vx_Run p l e R s m args below meth c H locs cells slots mc ms (F0 m pc ls st0) (r.map (cz (mz adR ad))) (fun st oc t => mQr dC dI dA adR ad W9.length o W' (va_A (cw dA (mz adR ad) ad W9) H.size) oc t ∧ va_F (va_A (cw dA (mz adR ad) ad W9) H.size) st t) (fun E st t => mQx dC dI dA adR ad W9.length o W' (va_A (cw dA (mz adR ad) ad W9) H.size) E t ∧ va_F (va_A (cw dA (mz adR ad) ad W9) H.size) st t) (va_A (cw dA (mz adR ad) ad W9) H.size) →
      W p l e R s m args below meth c H locs cells slots Q (F0 m pc ls st0) := by
  obtain ⟨p, l, e, R, s, m, args, below, meth, c, Q, A, dC, dI, dA, adR, RO, k⟩ := X
  obtain ⟨hx, hb, hml, hown, hwA, hA, hK, hRO, hROA, hlk, hrt, hfr, hlo, hini⟩ := hX
  intro H locs ls a hP hD hS hn hw hL hl hr T hT XX
  have hfc := m_fc hD hS hA
  rcases hr T hT XX with ⟨v, st₀, t, T', L9, h0, X', hL9, e1, e2, ⟨⟨v9, ad', ho, hv, hvw, hag, hP1, hD1, hn1, hw1, hle⟩, hF⟩, st⟩ | ⟨q, st₀, t, T', L9, E, ce, h0, X', hL9, e1, e2, ⟨⟨x, ad', ho, hE, hag, hP1, hD1, hn1, hw1, hle⟩, hF⟩, hce, hcv, hcl, st⟩
  · cases hv
    obtain ⟨k1, k2, k3⟩ := vx_keep h0 e1 hS (fun q _ h => hfc q h) hfc hL9 hF
    have k4 := kk v9 ho ad' hag T'.heap (locs ++ L9) ls (by rw [e1]; exact hP1) (hD1.weaken (fun _ y _ h => hfc y.1 h)) k3 hn1 hw1 (wv_mono hle hL) (fun y hy => by
      rcases List.mem_append.mp hy with h | h
      · exact hvw y h
      · exact wv_mono hle hr9 y h) (lz_eq hn hag hL hl)
    have e3 : (v9.toList ++ r).map (cz (mz adR ad')) = (v9.map (cz (mz adR ad'))).toList ++ r.map (cz (mz adR ad)) := by
      rw [List.map_append, czs_eq hn hag hr9]
      cases v9 <;> rfl
    rw [e3] at k4
    obtain ⟨t2, a1, b1⟩ := k4 T' rfl X'
    exact ⟨t2, st t2 a1, b1⟩
  · subst hE
    obtain ⟨k1, k2, k3⟩ := vx_keep h0 e1 hS (fun q _ h => hfc q h) hfc hL9 hF
    have k4 := kx x ho ad' hag T'.heap (locs ++ L9) ls q ce (by rw [e1]; exact hP1) (hD1.weaken (fun _ y _ h => hfc y.1 h)) k3 hn1 hw1 (wv_mono hle hL) (wv_mono hle hr9) (lz_eq hn hag hL hl) (by rw [e1]; exact hce) hcv hcl
    rw [czs_eq hn hag hr9] at k4
    obtain ⟨t2, a1, b1⟩ := k4 T' rfl X'
    exact ⟨t2, st.trans a1, b1⟩
end
section
theorem mws_eq {k : Nat} (h : mhh k = []) : mws k = Cond.code (mnm k) (mby k) (mml k) (mret k) :: wA := by
  unfold mws mcw
  rw [h]
theorem mws_eqW {k : Nat} {a : Nat × Nat × Nat × Nat} {b : List (Nat × Nat × Nat × Nat)} (h : mhh k = a :: b) : mws k = Cond.codeWith (mnm k) (mby k) (mml k) (mret k) (mhh k) :: wA := by
  unfold mws mcw
  rw [h]
theorem mws_good {k n : Nat} (h : mcl[k]? = some (k, n)) : GoodIn wA (mws k) := by
  intro w hw
  rcases List.mem_cons.mp hw with h1 | h1
  · have h2 := (mcl_ok _ (List.mem_of_getElem? h)).1
    rw [h1]
    exact ⟨wA_mem h2.1 h2.2, good_of_word h2.2⟩
  · exact ⟨h1, good_of_word (List.mem_filter.mp h1).2⟩
theorem mcl_hd {k n : Nat} (h : mcl[k]? = some (k, n)) : (mnm k).cls ≠ "java/lang/invoke/MethodHandle" ∧ (mnm k).cls ≠ "java/lang/invoke/VarHandle" := by
  have h2 := (mcl_ok _ (List.mem_of_getElem? h)).2
  simp only [Bool.and_eq_true, decide_eq_true_eq] at h2
  exact ⟨h2.1.2, h2.2⟩
theorem mcl_plain {k n : Nat} (h : mcl[k]? = some (k, n)) : plainName (mnm k).cls = true := by
  have h2 := (mcl_ok _ (List.mem_of_getElem? h)).2
  simp only [Bool.and_eq_true, decide_eq_true_eq] at h2
  exact h2.1.1
section MODES
variable {X : mX} {cells slots : Nat} {ad : Nat → Nat} {L r : List Value} {W9 : List mE} {pc : Nat}
theorem m_callV (hX : mCx X) (hY : mCy X) {index k9 d mc ms n1 n2 n3 n4 n5 n6 n7 : Nat} {host : String} {ci q : Nat} {C : String} {T : u_T} {N : Nat} {fs : List Value} {as : List Value} {o : mO} {W' : List mE} (hM : mCon (mL X) (mRO X) k9 d (.ref q :: as) W9 o W' mc ms)
    (hw2 : wat n2 = some (.methodLink (mnm (mkk X)).cls index (mnm k9))) (hg2 : goodWord (.methodLink (mnm (mkk X)).cls index (mnm k9)) = true) (hw3 : wat n3 = some (.initialized (mnm k9).cls)) (hg3 : goodWord (.initialized (mnm k9).cls) = true) (hw4 : wat n4 = some (.instanceMethod (mnm k9))) (hg4 : goodWord (.instanceMethod (mnm k9)) = true) (hw5 : wat n5 = some (.selects (mnm k9).cls (mnm k9) (mnm k9))) (hg5 : goodWord (.selects (mnm k9).cls (mnm k9) (mnm k9)) = true)
    (hnh : mhh k9 = []) (hdesc : (parseMethodDescriptor (mnm k9).desc).map (fun d => d.parameters.length) = some as.length) (hci : vwCl[ci]? = some (C, T, N)) (hC : C = (mnm k9).cls) (hg : mget (mRO X) W9 q = some (.inr (ci, fs))) (hR : d + 31 ≤ (mRm X).frames ∧ 8 + (mml k9 + 11) + (60 * d + 300) ≤ (mRm X).locals) (hcells : cells + mc ≤ (mRm X).cells ∧ slots + ms ≤ (mRm X).slots) (hcl : mcl[k9]? = some (k9, n1)) (hr : mcs r = true) (hd : decode (mby (mkk X)) pc = .ok (.invokevirtual index, 3))
    (kk : ∀ v, o = .inl v → ∀ ad' : Nat → Nat, (∀ j, j < W9.length → ad' j = ad j) → mGo X (cells + mc) (slots + ms) ad' L (v.toList ++ r) W' (pc + 3))
    (kx : ∀ x, o = .inr x → ∀ ad' : Nat → Nat, (∀ j, j < W9.length → ad' j = ad j) → mGoX X (cells + mc) (slots + ms) ad' L r W' pc x) : mGo X cells slots ad L (as.reverse ++ .ref q :: r) W9 pc := by
  have hrun := fun hr9 => m_run (X := X) hX (st0 := (as.reverse ++ .ref q :: r).map (cz (mz X.2.2.2.2.2.2.2.2.2.2.2.2.2.2.2.1 ad))) (ad := ad) (L := L) (r := r) (W9 := W9) hr9 kk kx
  have hpre := m_pre (X := X) hX hY (ad := ad) (as := (.ref q :: as)) (W9 := W9)
  obtain ⟨p, l, e, R, s, m, args, below, meth, c, Q, A, dC, dI, dA, adR, RO, k⟩ := X
  have hX0 := hX
  have hY0 := hY
  obtain ⟨hx, hb, hml, hown, hwA, hA, hK, hRO, hROA, hlk, hrt, hfr, hlo, hini⟩ := hX
  have hwd : ∀ (n : Nat) (w : Cond), wat n = some w → goodWord w = true → w.before args s = true := fun n w h g => hwA w (wA_mem h g)
  intro H locs ls hP hD hS hn hw hL hs hl
  have hpre := hpre H locs hP hD hS hn hw
  have hr8 : (r.map fun v => v.category).sum ≤ 8 := Nat.le_of_ble_eq_true hr
  have hcells : cells + mc ≤ R.cells ∧ slots + ms ≤ R.slots := hcells
  have hR : d + 31 ≤ R.frames ∧ 8 + (mml k9 + 11) + (60 * d + 300) ≤ R.locals := hR
  have hcf : CallFix p m c (mby k) (mml k) s args wA (mnm k).cls := ⟨hx, hb, hml, hown, hwA⟩
  obtain ⟨ws0, q0, hP9, hat⟩ := m_read hRO hROA hP hS hg
  have hrecv := va_recv hK hP9 hci hat
  subst hC
  have hr9 : wv W9.length r := fun v hv => hs v (by simp [hv])
  refine hrun hr9 H locs ls #[] hP hD hS hn hw hL hl ?_
  have hcb := (show CallW R s args (mnm k).cls (mnm k9).cls index (mnm k9) (mby k9) (mml k9) (mret k9) (mws k9) (mrm d mc ms) mc ms as.length from ⟨callB_of as.length hwA (mws_good hcl) (mws_eq hnh) (rm := mrm d mc ms) rfl rfl (hwd _ _ hw3 hg3) (hwd _ _ hw2 hg2) ⟨(mcl_hd hcl).1, (mcl_hd hcl).2, hdesc⟩ ⟨by show d + 30 + 1 ≤ _; omega, hR.2⟩, hwd _ _ hw4 hg4, hwd _ _ hw5 hg5⟩)
  have hst : ((as.reverse ++ .ref q :: r)).map (cz (mz adR ad)) = (as.map (cz (mz adR ad))).reverse ++ .ref (mz adR ad q) :: r.map (cz (mz adR ad)) := by
    rw [List.map_append, List.map_reverse]; try rfl
  exact vx_runV hcf (hM dC dI dA adR ad H.size) hcb ⟨hpre.1, hrecv, hpre.2⟩ rfl (List.length_map _) hl.1 hst (by show 2 * 0 + _ ≤ 8; rw [cz_cats]; omega) hd hcells
theorem m_callS (hX : mCx X) (hY : mCy X) {index k9 d mc ms n1 n2 n3 n4 n5 n6 n7 : Nat} {host : String}  {as : List Value} {o : mO} {W' : List mE} (hM : mCon (mL X) (mRO X) k9 d as W9 o W' mc ms)
    (hw2 : wat n2 = some (.methodLink (mnm (mkk X)).cls index (mnm k9))) (hg2 : goodWord (.methodLink (mnm (mkk X)).cls index (mnm k9)) = true) (hw3 : wat n3 = some (.initialized (mnm k9).cls)) (hg3 : goodWord (.initialized (mnm k9).cls) = true) (hw4 : wat n4 = some (.static (mnm k9))) (hg4 : goodWord (.static (mnm k9)) = true)
    (hnh : mhh k9 = []) (hdesc : (parseMethodDescriptor (mnm k9).desc).map (fun d => d.parameters.length) = some as.length)  (hR : d + 31 ≤ (mRm X).frames ∧ 8 + (mml k9 + 11) + (60 * d + 300) ≤ (mRm X).locals) (hcells : cells + mc ≤ (mRm X).cells ∧ slots + ms ≤ (mRm X).slots) (hcl : mcl[k9]? = some (k9, n1)) (hr : mcs r = true) (hd : decode (mby (mkk X)) pc = .ok (.invokestatic index, 3))
    (kk : ∀ v, o = .inl v → ∀ ad' : Nat → Nat, (∀ j, j < W9.length → ad' j = ad j) → mGo X (cells + mc) (slots + ms) ad' L (v.toList ++ r) W' (pc + 3))
    (kx : ∀ x, o = .inr x → ∀ ad' : Nat → Nat, (∀ j, j < W9.length → ad' j = ad j) → mGoX X (cells + mc) (slots + ms) ad' L r W' pc x) : mGo X cells slots ad L (as.reverse ++ r) W9 pc := by
  have hrun := fun hr9 => m_run (X := X) hX (st0 := (as.reverse ++ r).map (cz (mz X.2.2.2.2.2.2.2.2.2.2.2.2.2.2.2.1 ad))) (ad := ad) (L := L) (r := r) (W9 := W9) hr9 kk kx
  have hpre := m_pre (X := X) hX hY (ad := ad) (as := as) (W9 := W9)
  obtain ⟨p, l, e, R, s, m, args, below, meth, c, Q, A, dC, dI, dA, adR, RO, k⟩ := X
  have hX0 := hX
  have hY0 := hY
  obtain ⟨hx, hb, hml, hown, hwA, hA, hK, hRO, hROA, hlk, hrt, hfr, hlo, hini⟩ := hX
  have hwd : ∀ (n : Nat) (w : Cond), wat n = some w → goodWord w = true → w.before args s = true := fun n w h g => hwA w (wA_mem h g)
  intro H locs ls hP hD hS hn hw hL hs hl
  have hpre := hpre H locs hP hD hS hn hw
  have hr8 : (r.map fun v => v.category).sum ≤ 8 := Nat.le_of_ble_eq_true hr
  have hcells : cells + mc ≤ R.cells ∧ slots + ms ≤ R.slots := hcells
  have hR : d + 31 ≤ R.frames ∧ 8 + (mml k9 + 11) + (60 * d + 300) ≤ R.locals := hR
  have hcf : CallFix p m c (mby k) (mml k) s args wA (mnm k).cls := ⟨hx, hb, hml, hown, hwA⟩
  have hr9 : wv W9.length r := fun v hv => hs v (by simp [hv])
  refine hrun hr9 H locs ls #[] hP hD hS hn hw hL hl ?_
  have hcb := And.intro (callB_of as.length hwA (mws_good hcl) (mws_eq hnh) (rm := mrm d mc ms) rfl rfl (hwd _ _ hw3 hg3) (hwd _ _ hw2 hg2) ⟨(mcl_hd hcl).1, (mcl_hd hcl).2, hdesc⟩ ⟨by show d + 30 + 1 ≤ _; omega, hR.2⟩) (hwd _ _ hw4 hg4)
  have hst : ((as.reverse ++ r)).map (cz (mz adR ad)) = (as.map (cz (mz adR ad))).reverse ++ r.map (cz (mz adR ad)) := by
    rw [List.map_append, List.map_reverse]; try rfl
  exact vx_runS hcf (hM dC dI dA adR ad H.size) hcb hpre rfl (List.length_map _) hl.1 hst (by show 2 * 0 + _ ≤ 8; rw [cz_cats]; omega) hd hcells
theorem m_callI (hX : mCx X) (hY : mCy X) {index k9 d mc ms n1 n2 n3 n4 n5 n6 n7 : Nat} {host : String} {q : Nat} {as : List Value} {o : mO} {W' : List mE} (hM : mCon (mL X) (mRO X) k9 d (.ref q :: as) W9 o W' mc ms)
    (hw2 : wat n2 = some (.methodLink (mnm (mkk X)).cls index (mnm k9))) (hg2 : goodWord (.methodLink (mnm (mkk X)).cls index (mnm k9)) = true) (hw3 : wat n3 = some (.initialized (mnm k9).cls)) (hg3 : goodWord (.initialized (mnm k9).cls) = true) (hw4 : wat n4 = some (.instanceMethod (mnm k9))) (hg4 : goodWord (.instanceMethod (mnm k9)) = true)
    (hnh : mhh k9 = []) (hret : mret k9 = none) (hname : (mnm k9).name = "<init>") (hdesc : (parseMethodDescriptor (mnm k9).desc).map (fun d => d.parameters.length) = some as.length)  (hR : d + 31 ≤ (mRm X).frames ∧ 8 + (mml k9 + 11) + (60 * d + 300) ≤ (mRm X).locals) (hcells : cells + mc ≤ (mRm X).cells ∧ slots + ms ≤ (mRm X).slots) (hcl : mcl[k9]? = some (k9, n1)) (hr : mcs r = true) (hd : decode (mby (mkk X)) pc = .ok (.invokespecial index, 3))
    (kk : ∀ v, o = .inl v → ∀ ad' : Nat → Nat, (∀ j, j < W9.length → ad' j = ad j) → mGo X (cells + mc) (slots + ms) ad' L (v.toList ++ r) W' (pc + 3))
    (kx : ∀ x, o = .inr x → ∀ ad' : Nat → Nat, (∀ j, j < W9.length → ad' j = ad j) → mGoX X (cells + mc) (slots + ms) ad' L r W' pc x) : mGo X cells slots ad L (as.reverse ++ .ref q :: r) W9 pc := by
  have hrun := fun hr9 => m_run (X := X) hX (st0 := (as.reverse ++ .ref q :: r).map (cz (mz X.2.2.2.2.2.2.2.2.2.2.2.2.2.2.2.1 ad))) (ad := ad) (L := L) (r := r) (W9 := W9) hr9 kk kx
  have hpre := m_pre (X := X) hX hY (ad := ad) (as := (.ref q :: as)) (W9 := W9)
  obtain ⟨p, l, e, R, s, m, args, below, meth, c, Q, A, dC, dI, dA, adR, RO, k⟩ := X
  have hX0 := hX
  have hY0 := hY
  obtain ⟨hx, hb, hml, hown, hwA, hA, hK, hRO, hROA, hlk, hrt, hfr, hlo, hini⟩ := hX
  have hwd : ∀ (n : Nat) (w : Cond), wat n = some w → goodWord w = true → w.before args s = true := fun n w h g => hwA w (wA_mem h g)
  intro H locs ls hP hD hS hn hw hL hs hl
  have hpre := hpre H locs hP hD hS hn hw
  have hr8 : (r.map fun v => v.category).sum ≤ 8 := Nat.le_of_ble_eq_true hr
  have hcells : cells + mc ≤ R.cells ∧ slots + ms ≤ R.slots := hcells
  have hR : d + 31 ≤ R.frames ∧ 8 + (mml k9 + 11) + (60 * d + 300) ≤ R.locals := hR
  have hcf : CallFix p m c (mby k) (mml k) s args wA (mnm k).cls := ⟨hx, hb, hml, hown, hwA⟩
  have hr9 : wv W9.length r := fun v hv => hs v (by simp [hv])
  refine hrun hr9 H locs ls #[] hP hD hS hn hw hL hl ?_
  have hcb := (show CallB R s args (mnm k).cls index (mnm k9) (mby k9) (mml k9) none (mws k9) (mrm d mc ms) mc ms as.length ∧ (mnm k9).name = "<init>" ∧ (Cond.instanceMethod (mnm k9)).before args s = true from ⟨by rw [← hret]; exact callB_of as.length hwA (mws_good hcl) (mws_eq hnh) (rm := mrm d mc ms) rfl rfl (hwd _ _ hw3 hg3) (hwd _ _ hw2 hg2) ⟨(mcl_hd hcl).1, (mcl_hd hcl).2, hdesc⟩ ⟨by show d + 30 + 1 ≤ _; omega, hR.2⟩, hname, hwd _ _ hw4 hg4⟩)
  have hst : ((as.reverse ++ .ref q :: r)).map (cz (mz adR ad)) = (as.map (cz (mz adR ad))).reverse ++ .ref (mz adR ad q) :: r.map (cz (mz adR ad)) := by
    rw [List.map_append, List.map_reverse]; try rfl
  exact vx_runI hcf (hM dC dI dA adR ad H.size) hcb hpre rfl (List.length_map _) hl.1 hst (by show 2 * 0 + _ ≤ 8; rw [cz_cats]; omega) hd hcells
theorem m_callSN (hX : mCx X) (hY : mCy X) {index k9 d mc ms n1 n2 n3 n4 n5 n6 n7 : Nat} {host : String}  {as : List Value} {o : mO} {W' : List mE} (hM : mCon (mL X) (mRO X) k9 d as W9 o W' mc ms)
    (hw2 : wat n2 = some (.methodLinkNest (mnm (mkk X)).cls index (mnm k9) host)) (hg2 : goodWord (.methodLinkNest (mnm (mkk X)).cls index (mnm k9) host) = true) (hw3 : wat n3 = some (.initialized (mnm k9).cls)) (hg3 : goodWord (.initialized (mnm k9).cls) = true) (hw4 : wat n4 = some (.static (mnm k9))) (hg4 : goodWord (.static (mnm k9)) = true)
    (hnh : mhh k9 = []) (hnw : ∀ (args : Array Value) (s : State), (Cond.methodLinkNest (mnm (mkk X)).cls index (mnm k9) host).before args s = true → va_Nw (.methodLinkNest (mnm (mkk X)).cls index (mnm k9) host) s) (hdesc : (parseMethodDescriptor (mnm k9).desc).map (fun d => d.parameters.length) = some as.length)  (hR : d + 31 ≤ (mRm X).frames ∧ 8 + (mml k9 + 11) + (60 * d + 300) ≤ (mRm X).locals) (hcells : cells + mc ≤ (mRm X).cells ∧ slots + ms ≤ (mRm X).slots) (hcl : mcl[k9]? = some (k9, n1)) (hr : mcs r = true) (hd : decode (mby (mkk X)) pc = .ok (.invokestatic index, 3))
    (kk : ∀ v, o = .inl v → ∀ ad' : Nat → Nat, (∀ j, j < W9.length → ad' j = ad j) → mGo X (cells + mc) (slots + ms) ad' L (v.toList ++ r) W' (pc + 3))
    (kx : ∀ x, o = .inr x → ∀ ad' : Nat → Nat, (∀ j, j < W9.length → ad' j = ad j) → mGoX X (cells + mc) (slots + ms) ad' L r W' pc x) : mGo X cells slots ad L (as.reverse ++ r) W9 pc := by
  have hrun := fun hr9 => m_run (X := X) hX (st0 := (as.reverse ++ r).map (cz (mz X.2.2.2.2.2.2.2.2.2.2.2.2.2.2.2.1 ad))) (ad := ad) (L := L) (r := r) (W9 := W9) hr9 kk kx
  have hpre := m_pre (X := X) hX hY (ad := ad) (as := as) (W9 := W9)
  obtain ⟨p, l, e, R, s, m, args, below, meth, c, Q, A, dC, dI, dA, adR, RO, k⟩ := X
  have hX0 := hX
  have hY0 := hY
  obtain ⟨hx, hb, hml, hown, hwA, hA, hK, hRO, hROA, hlk, hrt, hfr, hlo, hini⟩ := hX
  have hwd : ∀ (n : Nat) (w : Cond), wat n = some w → goodWord w = true → w.before args s = true := fun n w h g => hwA w (wA_mem h g)
  intro H locs ls hP hD hS hn hw hL hs hl
  have hpre := hpre H locs hP hD hS hn hw
  have hr8 : (r.map fun v => v.category).sum ≤ 8 := Nat.le_of_ble_eq_true hr
  have hcells : cells + mc ≤ R.cells ∧ slots + ms ≤ R.slots := hcells
  have hR : d + 31 ≤ R.frames ∧ 8 + (mml k9 + 11) + (60 * d + 300) ≤ R.locals := hR
  have hcf : CallFix p m c (mby k) (mml k) s args wA (mnm k).cls := ⟨hx, hb, hml, hown, hwA⟩
  have hr9 : wv W9.length r := fun v hv => hs v (by simp [hv])
  refine hrun hr9 H locs ls #[] hP hD hS hn hw hL hl ?_
  have hnest := hnw args s (hwd _ _ hw2 hg2)
  have hcb := (show va_CN R s args (mnm k).cls index (mnm k9) host (mby k9) (mml k9) (mret k9) (mws k9) (mrm d mc ms) mc ms as.length ∧ (Cond.static (mnm k9)).before args s = true ∧ True from ⟨va_cnB as.length hwA (mws_good hcl) (mws_eq hnh) (rm := mrm d mc ms) rfl rfl hnest (hwd _ _ hw3 hg3) ⟨(mcl_hd hcl).1, (mcl_hd hcl).2, hdesc⟩ ⟨by show d + 30 + 1 ≤ _; omega, hR.2⟩, hwd _ _ hw4 hg4, trivial⟩)
  have hst : ((as.reverse ++ r)).map (cz (mz adR ad)) = (as.map (cz (mz adR ad))).reverse ++ r.map (cz (mz adR ad)) := by
    rw [List.map_append, List.map_reverse]; try rfl
  exact vx_runSN hcf (hM dC dI dA adR ad H.size) hcb hpre rfl (List.length_map _) hl.1 hst (by show 2 * 0 + _ ≤ 8; rw [cz_cats]; omega) hd hcells
theorem m_callIN (hX : mCx X) (hY : mCy X) {index k9 d mc ms n1 n2 n3 n4 n5 n6 n7 : Nat} {host : String} {q : Nat} {as : List Value} {o : mO} {W' : List mE} (hM : mCon (mL X) (mRO X) k9 d (.ref q :: as) W9 o W' mc ms)
    (hw2 : wat n2 = some (.methodLinkNest (mnm (mkk X)).cls index (mnm k9) host)) (hg2 : goodWord (.methodLinkNest (mnm (mkk X)).cls index (mnm k9) host) = true) (hw3 : wat n3 = some (.initialized (mnm k9).cls)) (hg3 : goodWord (.initialized (mnm k9).cls) = true) (hw4 : wat n4 = some (.instanceMethod (mnm k9))) (hg4 : goodWord (.instanceMethod (mnm k9)) = true)
    (hnh : mhh k9 = []) (hret : mret k9 = none) (hname : (mnm k9).name = "<init>") (hnw : ∀ (args : Array Value) (s : State), (Cond.methodLinkNest (mnm (mkk X)).cls index (mnm k9) host).before args s = true → va_Nw (.methodLinkNest (mnm (mkk X)).cls index (mnm k9) host) s) (hdesc : (parseMethodDescriptor (mnm k9).desc).map (fun d => d.parameters.length) = some as.length)  (hR : d + 31 ≤ (mRm X).frames ∧ 8 + (mml k9 + 11) + (60 * d + 300) ≤ (mRm X).locals) (hcells : cells + mc ≤ (mRm X).cells ∧ slots + ms ≤ (mRm X).slots) (hcl : mcl[k9]? = some (k9, n1)) (hr : mcs r = true) (hd : decode (mby (mkk X)) pc = .ok (.invokespecial index, 3))
    (kk : ∀ v, o = .inl v → ∀ ad' : Nat → Nat, (∀ j, j < W9.length → ad' j = ad j) → mGo X (cells + mc) (slots + ms) ad' L (v.toList ++ r) W' (pc + 3))
    (kx : ∀ x, o = .inr x → ∀ ad' : Nat → Nat, (∀ j, j < W9.length → ad' j = ad j) → mGoX X (cells + mc) (slots + ms) ad' L r W' pc x) : mGo X cells slots ad L (as.reverse ++ .ref q :: r) W9 pc := by
  have hrun := fun hr9 => m_run (X := X) hX (st0 := (as.reverse ++ .ref q :: r).map (cz (mz X.2.2.2.2.2.2.2.2.2.2.2.2.2.2.2.1 ad))) (ad := ad) (L := L) (r := r) (W9 := W9) hr9 kk kx
  have hpre := m_pre (X := X) hX hY (ad := ad) (as := (.ref q :: as)) (W9 := W9)
  obtain ⟨p, l, e, R, s, m, args, below, meth, c, Q, A, dC, dI, dA, adR, RO, k⟩ := X
  have hX0 := hX
  have hY0 := hY
  obtain ⟨hx, hb, hml, hown, hwA, hA, hK, hRO, hROA, hlk, hrt, hfr, hlo, hini⟩ := hX
  have hwd : ∀ (n : Nat) (w : Cond), wat n = some w → goodWord w = true → w.before args s = true := fun n w h g => hwA w (wA_mem h g)
  intro H locs ls hP hD hS hn hw hL hs hl
  have hpre := hpre H locs hP hD hS hn hw
  have hr8 : (r.map fun v => v.category).sum ≤ 8 := Nat.le_of_ble_eq_true hr
  have hcells : cells + mc ≤ R.cells ∧ slots + ms ≤ R.slots := hcells
  have hR : d + 31 ≤ R.frames ∧ 8 + (mml k9 + 11) + (60 * d + 300) ≤ R.locals := hR
  have hcf : CallFix p m c (mby k) (mml k) s args wA (mnm k).cls := ⟨hx, hb, hml, hown, hwA⟩
  have hr9 : wv W9.length r := fun v hv => hs v (by simp [hv])
  refine hrun hr9 H locs ls #[] hP hD hS hn hw hL hl ?_
  have hnest := hnw args s (hwd _ _ hw2 hg2)
  have hcb := (show va_CN R s args (mnm k).cls index (mnm k9) host (mby k9) (mml k9) none (mws k9) (mrm d mc ms) mc ms as.length ∧ (mnm k9).name = "<init>" ∧ (Cond.instanceMethod (mnm k9)).before args s = true from ⟨by rw [← hret]; exact va_cnB as.length hwA (mws_good hcl) (mws_eq hnh) (rm := mrm d mc ms) rfl rfl hnest (hwd _ _ hw3 hg3) ⟨(mcl_hd hcl).1, (mcl_hd hcl).2, hdesc⟩ ⟨by show d + 30 + 1 ≤ _; omega, hR.2⟩, hname, hwd _ _ hw4 hg4⟩)
  have hst : ((as.reverse ++ .ref q :: r)).map (cz (mz adR ad)) = (as.map (cz (mz adR ad))).reverse ++ .ref (mz adR ad q) :: r.map (cz (mz adR ad)) := by
    rw [List.map_append, List.map_reverse]; try rfl
  exact vx_runIN hcf (hM dC dI dA adR ad H.size) hcb hpre rfl (List.length_map _) hl.1 hst (by show 2 * 0 + _ ≤ 8; rw [cz_cats]; omega) hd hcells
theorem m_callSX (hX : mCx X) (hY : mCy X) {index k9 d mc ms n1 n2 n3 n4 n5 n6 n7 : Nat} {host : String}  {as : List Value} {o : mO} {W' : List mE} (hM : mCon (mL X) (mRO X) k9 d as W9 o W' mc ms)
    (hw2 : wat n2 = some (.methodLink (mnm (mkk X)).cls index (mnm k9))) (hg2 : goodWord (.methodLink (mnm (mkk X)).cls index (mnm k9)) = true) (hw3 : wat n3 = some (.initialized (mnm k9).cls)) (hg3 : goodWord (.initialized (mnm k9).cls) = true) (hw4 : wat n4 = some (.static (mnm k9))) (hg4 : goodWord (.static (mnm k9)) = true)
    {ah : Nat × Nat × Nat × Nat} {bh : List (Nat × Nat × Nat × Nat)} (hnh : mhh k9 = ah :: bh) (hdesc : (parseMethodDescriptor (mnm k9).desc).map (fun d => d.parameters.length) = some as.length)  (hR : d + 31 ≤ (mRm X).frames ∧ 8 + (mml k9 + 11) + (60 * d + 300) ≤ (mRm X).locals) (hcells : cells + mc ≤ (mRm X).cells ∧ slots + ms ≤ (mRm X).slots) (hcl : mcl[k9]? = some (k9, n1)) (hr : mcs r = true) (hd : decode (mby (mkk X)) pc = .ok (.invokestatic index, 3))
    (kk : ∀ v, o = .inl v → ∀ ad' : Nat → Nat, (∀ j, j < W9.length → ad' j = ad j) → mGo X (cells + mc) (slots + ms) ad' L (v.toList ++ r) W' (pc + 3))
    (kx : ∀ x, o = .inr x → ∀ ad' : Nat → Nat, (∀ j, j < W9.length → ad' j = ad j) → mGoX X (cells + mc) (slots + ms) ad' L r W' pc x) : mGo X cells slots ad L (as.reverse ++ r) W9 pc := by
  have hrun := fun hr9 => m_run (X := X) hX (st0 := (as.reverse ++ r).map (cz (mz X.2.2.2.2.2.2.2.2.2.2.2.2.2.2.2.1 ad))) (ad := ad) (L := L) (r := r) (W9 := W9) hr9 kk kx
  have hpre := m_pre (X := X) hX hY (ad := ad) (as := as) (W9 := W9)
  obtain ⟨p, l, e, R, s, m, args, below, meth, c, Q, A, dC, dI, dA, adR, RO, k⟩ := X
  have hX0 := hX
  have hY0 := hY
  obtain ⟨hx, hb, hml, hown, hwA, hA, hK, hRO, hROA, hlk, hrt, hfr, hlo, hini⟩ := hX
  have hwd : ∀ (n : Nat) (w : Cond), wat n = some w → goodWord w = true → w.before args s = true := fun n w h g => hwA w (wA_mem h g)
  intro H locs ls hP hD hS hn hw hL hs hl
  have hpre := hpre H locs hP hD hS hn hw
  have hr8 : (r.map fun v => v.category).sum ≤ 8 := Nat.le_of_ble_eq_true hr
  have hcells : cells + mc ≤ R.cells ∧ slots + ms ≤ R.slots := hcells
  have hR : d + 31 ≤ R.frames ∧ 8 + (mml k9 + 11) + (60 * d + 300) ≤ R.locals := hR
  have hcf : CallFix p m c (mby k) (mml k) s args wA (mnm k).cls := ⟨hx, hb, hml, hown, hwA⟩
  have hr9 : wv W9.length r := fun v hv => hs v (by simp [hv])
  refine hrun hr9 H locs ls #[] hP hD hS hn hw hL hl ?_
  have hmw := mws_eqW hnh
  have hgi : GoodIn wA (va_wsS (mnm k).cls index (mnm k9) (mws k9)) := by
    intro w hw0
    rcases List.mem_append.mp hw0 with h | h
    · rcases List.mem_cons.mp h with h | h
      · rw [h]; exact ⟨wA_mem hw2 hg2, good_of_word hg2⟩
      · rcases List.mem_cons.mp h with h | h
        · rw [h]; exact ⟨wA_mem hw4 hg4, good_of_word hg4⟩
        · rw [List.mem_singleton.mp h]; exact ⟨wA_mem hw3 hg3, good_of_word hg3⟩
    · exact mws_good hcl w h
  have hcb := (show vx_CSW R s args (mnm k).cls index (mnm k9) (mby k9) (mml k9) (mret k9) (mhh k9) (mws k9) (mrm d mc ms) mc ms as.length from vx_cwSW as.length hwA hgi hmw (rm := mrm d mc ms) rfl rfl ⟨(mcl_hd hcl).1, (mcl_hd hcl).2, hdesc⟩ ⟨by show d + 30 + 1 ≤ _; omega, hR.2⟩)
  have hst : ((as.reverse ++ r)).map (cz (mz adR ad)) = (as.map (cz (mz adR ad))).reverse ++ r.map (cz (mz adR ad)) := by
    rw [List.map_append, List.map_reverse]; try rfl
  exact vx_runSX hcf (hM dC dI dA adR ad H.size) hcb hpre rfl (List.length_map _) hl.1 hst (by show 2 * 0 + _ ≤ 8; rw [cz_cats]; omega) hd hcells
end MODES
end
section
/-! the machine: what each op does; what is checked of its place in the code -/
abbrev mSf : Type := List mE → List Nat → Value → List Value → List Value → List mE → Option (List Value × List Value × List mE)
abbrev mCk : Type := Nat → Instr → Nat → List Nat → Value → Bool
def wck (n : Nat) (w : Cond) : Bool := decide (wat n = some w) && goodWord w
theorem wck_1 {n : Nat} {w : Cond} (h : wck n w = true) : wat n = some w := by
  unfold wck at h
  simp only [Bool.and_eq_true, decide_eq_true_eq] at h
  exact h.1
theorem wck_2 {n : Nat} {w : Cond} (h : wck n w = true) : goodWord w = true := by
  unfold wck at h
  simp only [Bool.and_eq_true, decide_eq_true_eq] at h
  exact h.2
def SimS (q : mCk × mSf) : Prop := ∀ (X : mX) (cells slots : Nat) (ad : Nat → Nat) (L st : List Value) (W9 : List mE) (pc nx : Nat) (i : Instr) (len : Nat) (x : List Nat) (v : Value) (L' st' : List Value) (W' : List mE), mCx X → mCy X → (∀ e ∈ mRO X, wE 0 e) → cells ≤ (mRm X).cells → slots ≤ (mRm X).slots → decode (mby (mkk X)) pc = .ok (i, len) → nx = pc + len → q.1 (mkk X) i len x v = true → q.2 (mRO X) x v L st W9 = some (L', st', W') → mGo X cells slots ad L' st' W' nx → mGo X cells slots ad L st W9 pc
def vkt (u : Value) (t : Nat) : Bool := match u with
  | .int _ => Nat.beq t 0
  | .ref _ => Nat.beq t 1
  | .null => Nat.beq t 1
  | _ => false
theorem ldc_aux (adR ad : Nat → Nat) (q j : Nat) (hq : q = 1000000 + 2 * j) : mz adR ad q = adR (2 * j) ∧ 1000000 ≤ q := by
  have h9 : Nat.blt q 1000000 = false := by
    cases hh : Nat.blt q 1000000
    · rfl
    · have := Nat.le_of_ble_eq_true hh
      omega
  refine ⟨?_, by omega⟩
  rw [mz, h9]
  show adR (q - 1000000) = _
  rw [show q - 1000000 = 2 * j by omega]
def lget (L : List Value) (i : Nat) : Option Value := L[i]?
theorem lset_some {L L' : List Value} {i : Nat} {u : Value} {st st' : List Value} {W9 W' : List mE} (h : mset L i u (fun l => some (l, st, W9)) none = some (L', st', W')) : L' = L.set i u ∧ st' = st ∧ W' = W9 := by
  rw [mset_eq] at h
  by_cases hi : i < L.length
  · rw [if_pos hi] at h; cases h; exact ⟨rfl, rfl, rfl⟩
  · rw [if_neg hi] at h; cases h
theorem wset_some {L L' : List Value} {q : Nat} {e : mE} {st st' : List Value} {W9 W' : List mE} (h : mset W9 q e (fun w => some (L, st, w)) none = some (L', st', W')) : L' = L ∧ st' = st ∧ W' = W9.set q e := by
  rw [mset_eq] at h
  by_cases hi : q < W9.length
  · rw [if_pos hi] at h; cases h; exact ⟨rfl, rfl, rfl⟩
  · rw [if_neg hi] at h; cases h
def ck_iadd : mCk := fun _ i len _ _ => decide (i = .iadd) && Nat.beq len 1
def sf_iadd : mSf := fun _ _ _ L st W9 => match st with
  | .int y :: .int x :: r => some (L, .int (x + y) :: r, W9)
  | _ => none
theorem sim_iadd : SimS (ck_iadd, sf_iadd) := by
  intro X cells slots ad L st W9 pc nx i len x v L' st' W' hX hY hro hce hsl hd hnx hc h kk
  subst hnx
  simp only [ck_iadd, sf_iadd] at hc h
  simp only [Bool.and_eq_true, decide_eq_true_eq] at hc
  obtain ⟨rfl, hl⟩ := hc
  cases Nat.eq_of_beq_eq_true hl
  split at h
  · cases h
    exact o_iadd hX hd kk
  · cases h
def ck_isub : mCk := fun _ i len _ _ => decide (i = .isub) && Nat.beq len 1
def sf_isub : mSf := fun _ _ _ L st W9 => match st with
  | .int y :: .int x :: r => some (L, .int (x - y) :: r, W9)
  | _ => none
theorem sim_isub : SimS (ck_isub, sf_isub) := by
  intro X cells slots ad L st W9 pc nx i len x v L' st' W' hX hY hro hce hsl hd hnx hc h kk
  subst hnx
  simp only [ck_isub, sf_isub] at hc h
  simp only [Bool.and_eq_true, decide_eq_true_eq] at hc
  obtain ⟨rfl, hl⟩ := hc
  cases Nat.eq_of_beq_eq_true hl
  split at h
  · cases h
    exact o_isub hX hd kk
  · cases h
def ck_imul : mCk := fun _ i len _ _ => decide (i = .imul) && Nat.beq len 1
def sf_imul : mSf := fun _ _ _ L st W9 => match st with
  | .int y :: .int x :: r => some (L, .int (x * y) :: r, W9)
  | _ => none
theorem sim_imul : SimS (ck_imul, sf_imul) := by
  intro X cells slots ad L st W9 pc nx i len x v L' st' W' hX hY hro hce hsl hd hnx hc h kk
  subst hnx
  simp only [ck_imul, sf_imul] at hc h
  simp only [Bool.and_eq_true, decide_eq_true_eq] at hc
  obtain ⟨rfl, hl⟩ := hc
  cases Nat.eq_of_beq_eq_true hl
  split at h
  · cases h
    exact o_imul hX hd kk
  · cases h
def ck_iand : mCk := fun _ i len _ _ => decide (i = .iand) && Nat.beq len 1
def sf_iand : mSf := fun _ _ _ L st W9 => match st with
  | .int y :: .int x :: r => some (L, .int (x &&& y) :: r, W9)
  | _ => none
theorem sim_iand : SimS (ck_iand, sf_iand) := by
  intro X cells slots ad L st W9 pc nx i len x v L' st' W' hX hY hro hce hsl hd hnx hc h kk
  subst hnx
  simp only [ck_iand, sf_iand] at hc h
  simp only [Bool.and_eq_true, decide_eq_true_eq] at hc
  obtain ⟨rfl, hl⟩ := hc
  cases Nat.eq_of_beq_eq_true hl
  split at h
  · cases h
    exact o_iand hX hd kk
  · cases h
def ck_ior : mCk := fun _ i len _ _ => decide (i = .ior) && Nat.beq len 1
def sf_ior : mSf := fun _ _ _ L st W9 => match st with
  | .int y :: .int x :: r => some (L, .int (x ||| y) :: r, W9)
  | _ => none
theorem sim_ior : SimS (ck_ior, sf_ior) := by
  intro X cells slots ad L st W9 pc nx i len x v L' st' W' hX hY hro hce hsl hd hnx hc h kk
  subst hnx
  simp only [ck_ior, sf_ior] at hc h
  simp only [Bool.and_eq_true, decide_eq_true_eq] at hc
  obtain ⟨rfl, hl⟩ := hc
  cases Nat.eq_of_beq_eq_true hl
  split at h
  · cases h
    exact o_ior hX hd kk
  · cases h
def ck_ishl : mCk := fun _ i len _ _ => decide (i = .ishl) && Nat.beq len 1
def sf_ishl : mSf := fun _ _ _ L st W9 => match st with
  | .int y :: .int x :: r => some (L, .int (x <<< (y &&& 31)) :: r, W9)
  | _ => none
theorem sim_ishl : SimS (ck_ishl, sf_ishl) := by
  intro X cells slots ad L st W9 pc nx i len x v L' st' W' hX hY hro hce hsl hd hnx hc h kk
  subst hnx
  simp only [ck_ishl, sf_ishl] at hc h
  simp only [Bool.and_eq_true, decide_eq_true_eq] at hc
  obtain ⟨rfl, hl⟩ := hc
  cases Nat.eq_of_beq_eq_true hl
  split at h
  · cases h
    exact o_ishl hX hd kk
  · cases h
def ck_ishr : mCk := fun _ i len _ _ => decide (i = .ishr) && Nat.beq len 1
def sf_ishr : mSf := fun _ _ _ L st W9 => match st with
  | .int y :: .int x :: r => some (L, .int (x >>> (y &&& 31)) :: r, W9)
  | _ => none
theorem sim_ishr : SimS (ck_ishr, sf_ishr) := by
  intro X cells slots ad L st W9 pc nx i len x v L' st' W' hX hY hro hce hsl hd hnx hc h kk
  subst hnx
  simp only [ck_ishr, sf_ishr] at hc h
  simp only [Bool.and_eq_true, decide_eq_true_eq] at hc
  obtain ⟨rfl, hl⟩ := hc
  cases Nat.eq_of_beq_eq_true hl
  split at h
  · cases h
    exact o_ishr hX hd kk
  · cases h
def ck_iushr : mCk := fun _ i len _ _ => decide (i = .iushr) && Nat.beq len 1
def sf_iushr : mSf := fun _ _ _ L st W9 => match st with
  | .int y :: .int x :: r => some (L, .int (x.toUInt32 >>> (y.toUInt32 &&& Int32.toUInt32 31)).toInt32 :: r, W9)
  | _ => none
theorem sim_iushr : SimS (ck_iushr, sf_iushr) := by
  intro X cells slots ad L st W9 pc nx i len x v L' st' W' hX hY hro hce hsl hd hnx hc h kk
  subst hnx
  simp only [ck_iushr, sf_iushr] at hc h
  simp only [Bool.and_eq_true, decide_eq_true_eq] at hc
  obtain ⟨rfl, hl⟩ := hc
  cases Nat.eq_of_beq_eq_true hl
  split at h
  · cases h
    exact o_iushr hX hd kk
  · cases h
def ck_ineg : mCk := fun _ i len _ _ => decide (i = .ineg) && Nat.beq len 1
def sf_ineg : mSf := fun _ _ _ L st W9 => match st with
  | .int x :: r => some (L, .int (-x) :: r, W9)
  | _ => none
theorem sim_ineg : SimS (ck_ineg, sf_ineg) := by
  intro X cells slots ad L st W9 pc nx i len x v L' st' W' hX hY hro hce hsl hd hnx hc h kk
  subst hnx
  simp only [ck_ineg, sf_ineg] at hc h
  simp only [Bool.and_eq_true, decide_eq_true_eq] at hc
  obtain ⟨rfl, hl⟩ := hc
  cases Nat.eq_of_beq_eq_true hl
  split at h
  · cases h
    exact o_ineg hX hd kk
  · cases h
def ck_i2b : mCk := fun _ i len _ _ => decide (i = .i2b) && Nat.beq len 1
def sf_i2b : mSf := fun _ _ _ L st W9 => match st with
  | .int x :: r => some (L, .int x.toInt8.toInt32 :: r, W9)
  | _ => none
theorem sim_i2b : SimS (ck_i2b, sf_i2b) := by
  intro X cells slots ad L st W9 pc nx i len x v L' st' W' hX hY hro hce hsl hd hnx hc h kk
  subst hnx
  simp only [ck_i2b, sf_i2b] at hc h
  simp only [Bool.and_eq_true, decide_eq_true_eq] at hc
  obtain ⟨rfl, hl⟩ := hc
  cases Nat.eq_of_beq_eq_true hl
  split at h
  · cases h
    exact o_i2b hX hd kk
  · cases h
def ck_i2c : mCk := fun _ i len _ _ => decide (i = .i2c) && Nat.beq len 1
def sf_i2c : mSf := fun _ _ _ L st W9 => match st with
  | .int x :: r => some (L, .int (x.toUInt32 % 65536).toInt32 :: r, W9)
  | _ => none
theorem sim_i2c : SimS (ck_i2c, sf_i2c) := by
  intro X cells slots ad L st W9 pc nx i len x v L' st' W' hX hY hro hce hsl hd hnx hc h kk
  subst hnx
  simp only [ck_i2c, sf_i2c] at hc h
  simp only [Bool.and_eq_true, decide_eq_true_eq] at hc
  obtain ⟨rfl, hl⟩ := hc
  cases Nat.eq_of_beq_eq_true hl
  split at h
  · cases h
    exact o_i2c hX hd kk
  · cases h
def ck_i2l : mCk := fun _ i len _ _ => decide (i = .i2l) && Nat.beq len 1
def sf_i2l : mSf := fun _ _ _ L st W9 => match st with
  | .int x :: r => some (L, .long x.toInt64 :: r, W9)
  | _ => none
theorem sim_i2l : SimS (ck_i2l, sf_i2l) := by
  intro X cells slots ad L st W9 pc nx i len x v L' st' W' hX hY hro hce hsl hd hnx hc h kk
  subst hnx
  simp only [ck_i2l, sf_i2l] at hc h
  simp only [Bool.and_eq_true, decide_eq_true_eq] at hc
  obtain ⟨rfl, hl⟩ := hc
  cases Nat.eq_of_beq_eq_true hl
  split at h
  · cases h
    exact o_i2l hX hd kk
  · cases h
def ck_i2f : mCk := fun _ i len _ _ => decide (i = .i2f) && Nat.beq len 1
def sf_i2f : mSf := fun _ _ _ L st W9 => match st with
  | .int x :: r => some (L, .float (FP.i2f x) :: r, W9)
  | _ => none
theorem sim_i2f : SimS (ck_i2f, sf_i2f) := by
  intro X cells slots ad L st W9 pc nx i len x v L' st' W' hX hY hro hce hsl hd hnx hc h kk
  subst hnx
  simp only [ck_i2f, sf_i2f] at hc h
  simp only [Bool.and_eq_true, decide_eq_true_eq] at hc
  obtain ⟨rfl, hl⟩ := hc
  cases Nat.eq_of_beq_eq_true hl
  split at h
  · cases h
    exact o_i2f hX hd kk
  · cases h
def ck_i2d : mCk := fun _ i len _ _ => decide (i = .i2d) && Nat.beq len 1
def sf_i2d : mSf := fun _ _ _ L st W9 => match st with
  | .int x :: r => some (L, .double (FP.i2d x) :: r, W9)
  | _ => none
theorem sim_i2d : SimS (ck_i2d, sf_i2d) := by
  intro X cells slots ad L st W9 pc nx i len x v L' st' W' hX hY hro hce hsl hd hnx hc h kk
  subst hnx
  simp only [ck_i2d, sf_i2d] at hc h
  simp only [Bool.and_eq_true, decide_eq_true_eq] at hc
  obtain ⟨rfl, hl⟩ := hc
  cases Nat.eq_of_beq_eq_true hl
  split at h
  · cases h
    exact o_i2d hX hd kk
  · cases h
def ck_lcmp : mCk := fun _ i len _ _ => decide (i = .lcmp) && Nat.beq len 1
def sf_lcmp : mSf := fun _ _ _ L st W9 => match st with
  | .long y :: .long x :: r => some (L, .int (lg_cmp x y) :: r, W9)
  | _ => none
theorem sim_lcmp : SimS (ck_lcmp, sf_lcmp) := by
  intro X cells slots ad L st W9 pc nx i len x v L' st' W' hX hY hro hce hsl hd hnx hc h kk
  subst hnx
  simp only [ck_lcmp, sf_lcmp] at hc h
  simp only [Bool.and_eq_true, decide_eq_true_eq] at hc
  obtain ⟨rfl, hl⟩ := hc
  cases Nat.eq_of_beq_eq_true hl
  split at h
  · cases h
    exact o_lcmp hX hd kk
  · cases h
def ck_fcmp : mCk := fun _ i len x _ => match i with
  | .fcmp op => decide (op = (match x with
    | [0] => CmpOp.l
    | _ => CmpOp.g)) && Nat.beq len 1
  | _ => false
def sf_fcmp : mSf := fun _ x0 _ L st W9 => match st with
  | .float y :: .float x :: r => some (L, .int (Op.cmpValue (FP.fcmp x y) (match x0 with
    | [0] => CmpOp.l
    | _ => CmpOp.g)) :: r, W9)
  | _ => none
theorem sim_fcmp : SimS (ck_fcmp, sf_fcmp) := by
  intro X cells slots ad L st W9 pc nx i len x v L' st' W' hX hY hro hce hsl hd hnx hc h kk
  subst hnx
  simp only [ck_fcmp, sf_fcmp] at hc h
  cases i with
  | fcmp op =>
    simp only [Bool.and_eq_true, decide_eq_true_eq] at hc
    obtain ⟨hop, hl⟩ := hc
    cases Nat.eq_of_beq_eq_true hl
    subst hop
    split at h
    · cases h
      exact o_fcmp hX hd kk
    · cases h
  | _ => cases hc
def ck_dcmp : mCk := fun _ i len x _ => match i with
  | .dcmp op => decide (op = (match x with
    | [0] => CmpOp.l
    | _ => CmpOp.g)) && Nat.beq len 1
  | _ => false
def sf_dcmp : mSf := fun _ x0 _ L st W9 => match st with
  | .double y :: .double x :: r => some (L, .int (Op.cmpValue (FP.dcmp x y) (match x0 with
    | [0] => CmpOp.l
    | _ => CmpOp.g)) :: r, W9)
  | _ => none
theorem sim_dcmp : SimS (ck_dcmp, sf_dcmp) := by
  intro X cells slots ad L st W9 pc nx i len x v L' st' W' hX hY hro hce hsl hd hnx hc h kk
  subst hnx
  simp only [ck_dcmp, sf_dcmp] at hc h
  cases i with
  | dcmp op =>
    simp only [Bool.and_eq_true, decide_eq_true_eq] at hc
    obtain ⟨hop, hl⟩ := hc
    cases Nat.eq_of_beq_eq_true hl
    subst hop
    split at h
    · cases h
      exact o_dcmp hX hd kk
    · cases h
  | _ => cases hc
def ck_iconst : mCk := fun _ i len _ v => match i, v with
  | .iconst n, .int a => decide (Int32.ofInt n = a) && Nat.beq len 1
  | _, _ => false
def sf_iconst : mSf := fun _ _ v L st W9 => some (L, v :: st, W9)
theorem sim_iconst : SimS (ck_iconst, sf_iconst) := by
  intro X cells slots ad L st W9 pc nx i len x v L' st' W' hX hY hro hce hsl hd hnx hc h kk
  subst hnx
  simp only [ck_iconst, sf_iconst] at hc h
  cases h
  split at hc
  · simp only [Bool.and_eq_true, decide_eq_true_eq] at hc
    obtain ⟨hv, hl⟩ := hc
    cases Nat.eq_of_beq_eq_true hl
    exact o_iconst hX hv hd kk
  · cases hc
def ck_bipush : mCk := fun _ i len _ v => match i, v with
  | .bipush n, .int a => decide ((Int8.ofInt n).toInt32 = a) && Nat.beq len 2
  | _, _ => false
def sf_bipush : mSf := fun _ _ v L st W9 => some (L, v :: st, W9)
theorem sim_bipush : SimS (ck_bipush, sf_bipush) := by
  intro X cells slots ad L st W9 pc nx i len x v L' st' W' hX hY hro hce hsl hd hnx hc h kk
  subst hnx
  simp only [ck_bipush, sf_bipush] at hc h
  cases h
  split at hc
  · simp only [Bool.and_eq_true, decide_eq_true_eq] at hc
    obtain ⟨hv, hl⟩ := hc
    cases Nat.eq_of_beq_eq_true hl
    exact o_bipush hX hv hd kk
  · cases hc
def ck_sipush : mCk := fun _ i len _ v => match i, v with
  | .sipush n, .int a => decide ((Int16.ofInt n).toInt32 = a) && Nat.beq len 3
  | _, _ => false
def sf_sipush : mSf := fun _ _ v L st W9 => some (L, v :: st, W9)
theorem sim_sipush : SimS (ck_sipush, sf_sipush) := by
  intro X cells slots ad L st W9 pc nx i len x v L' st' W' hX hY hro hce hsl hd hnx hc h kk
  subst hnx
  simp only [ck_sipush, sf_sipush] at hc h
  cases h
  split at hc
  · simp only [Bool.and_eq_true, decide_eq_true_eq] at hc
    obtain ⟨hv, hl⟩ := hc
    cases Nat.eq_of_beq_eq_true hl
    exact o_sipush hX hv hd kk
  · cases hc
def ck_fconst0 : mCk := fun _ i len _ _ => decide (i = .fconst 0) && Nat.beq len 1
def sf_fconst0 : mSf := fun _ _ _ L st W9 => some (L, .float FP.fconst0 :: st, W9)
theorem sim_fconst0 : SimS (ck_fconst0, sf_fconst0) := by
  intro X cells slots ad L st W9 pc nx i len x v L' st' W' hX hY hro hce hsl hd hnx hc h kk
  subst hnx
  simp only [ck_fconst0, sf_fconst0] at hc h
  simp only [Bool.and_eq_true, decide_eq_true_eq] at hc
  obtain ⟨rfl, hl⟩ := hc
  cases Nat.eq_of_beq_eq_true hl
  cases h
  obtain ⟨p, l, e, R, s, m, args, below, meth, c, Q, A, dC, dI, dA, adR, RO, k⟩ := X
  obtain ⟨hx, hb, hml, hown, hwA, hA, hK, hRO, hROA, hlk, hrt, hfr, hlo, hini⟩ := hX
  intro H locs ls hP hD hS hn hw hL hs hl
  exact lv_fconst0 hx hb hd (kk H locs ls hP hD hS hn hw hL (wv_cons (fun _ e => by cases e) hs) hl)
def ck_dconst0 : mCk := fun _ i len _ _ => decide (i = .dconst 0) && Nat.beq len 1
def sf_dconst0 : mSf := fun _ _ _ L st W9 => some (L, .double FP.dconst0 :: st, W9)
theorem sim_dconst0 : SimS (ck_dconst0, sf_dconst0) := by
  intro X cells slots ad L st W9 pc nx i len x v L' st' W' hX hY hro hce hsl hd hnx hc h kk
  subst hnx
  simp only [ck_dconst0, sf_dconst0] at hc h
  simp only [Bool.and_eq_true, decide_eq_true_eq] at hc
  obtain ⟨rfl, hl⟩ := hc
  cases Nat.eq_of_beq_eq_true hl
  cases h
  obtain ⟨p, l, e, R, s, m, args, below, meth, c, Q, A, dC, dI, dA, adR, RO, k⟩ := X
  obtain ⟨hx, hb, hml, hown, hwA, hA, hK, hRO, hROA, hlk, hrt, hfr, hlo, hini⟩ := hX
  intro H locs ls hP hD hS hn hw hL hs hl
  exact lv_dconst0 hx hb hd (kk H locs ls hP hD hS hn hw hL (wv_cons (fun _ e => by cases e) hs) hl)
def ck_ldcS : mCk := fun k i len x v => match i, x, v with
  | .ldc index, [j], .ref q => (match mstrs[j]? with
    | some (own, idx, _) => decide (own = (mnm k).cls) && Nat.beq idx index && Nat.beq q (1000000 + 2 * j) && Nat.beq len 2
    | none => false)
  | _, _, _ => false
def sf_ldcS : mSf := fun _ _ v L st W9 => some (L, v :: st, W9)
theorem sim_ldcS : SimS (ck_ldcS, sf_ldcS) := by
  intro X cells slots ad L st W9 pc nx i len x v L' st' W' hX hY hro hce hsl hd hnx hc h kk
  subst hnx
  simp only [ck_ldcS, sf_ldcS] at hc h
  cases h
  split at hc
  · rename_i index j q
    split at hc
    · rename_i own idx tx hj
      simp only [Bool.and_eq_true, decide_eq_true_eq] at hc
      obtain ⟨⟨⟨h1, h2⟩, h3⟩, hl⟩ := hc
      cases Nat.eq_of_beq_eq_true hl
      cases Nat.eq_of_beq_eq_true h2
      have hq := Nat.eq_of_beq_eq_true h3
      subst h1
      obtain ⟨p, l, e, R, s, m, args, below, meth, c, Q, A, dC, dI, dA, adR, RO, k⟩ := X
      obtain ⟨hx, hb, hml, hown, hwA, hA, hK, hRO, hROA, hlk, hrt, hfr, hlo, hini⟩ := hX
      intro H locs ls hP hD hS hn hw hL hs hl
      obtain ⟨hz, hge⟩ := ldc_aux adR ad q j hq
      obtain ⟨hE, -, -⟩ := hY
      have hz9 := hE.2.2 j _ hj
      have k9 := kk H locs ls hP hD hS hn hw hL (wv_cons (fun r9 e9 => Or.inr (by cases e9; exact hge)) hs) hl
      rw [List.map_cons, show cz (mz adR ad) (.ref q) = .ref (adR (2 * j)) from congrArg Value.ref hz] at k9
      exact va_ldcS hx hb hown hz9 hd k9
    · cases hc
  · cases hc
def ck_dup : mCk := fun _ i len _ _ => decide (i = .dup) && Nat.beq len 1
def sf_dup : mSf := fun _ _ _ L st W9 => match st with
  | a :: r => bif Nat.beq a.category 1 then some (L, a :: a :: r, W9) else none
  | _ => none
theorem sim_dup : SimS (ck_dup, sf_dup) := by
  intro X cells slots ad L st W9 pc nx i len x v L' st' W' hX hY hro hce hsl hd hnx hc h kk
  subst hnx
  simp only [ck_dup, sf_dup] at hc h
  simp only [Bool.and_eq_true, decide_eq_true_eq] at hc
  obtain ⟨rfl, hl⟩ := hc
  cases Nat.eq_of_beq_eq_true hl
  split at h
  · rename_i a r
    cases hb : Nat.beq a.category 1 with
    | true =>
      rw [hb] at h
      cases h
      exact o_dup hX (Nat.eq_of_beq_eq_true hb) hd kk
    | false => rw [hb] at h; cases h
  · cases h
def ck_pop : mCk := fun _ i len _ _ => decide (i = .pop) && Nat.beq len 1
def sf_pop : mSf := fun _ _ _ L st W9 => match st with
  | a :: r => bif Nat.beq a.category 1 then some (L, r, W9) else none
  | _ => none
theorem sim_pop : SimS (ck_pop, sf_pop) := by
  intro X cells slots ad L st W9 pc nx i len x v L' st' W' hX hY hro hce hsl hd hnx hc h kk
  subst hnx
  simp only [ck_pop, sf_pop] at hc h
  simp only [Bool.and_eq_true, decide_eq_true_eq] at hc
  obtain ⟨rfl, hl⟩ := hc
  cases Nat.eq_of_beq_eq_true hl
  split at h
  · rename_i a r
    cases hb : Nat.beq a.category 1 with
    | true =>
      rw [hb] at h
      cases h
      exact o_pop hX (Nat.eq_of_beq_eq_true hb) hd kk
    | false => rw [hb] at h; cases h
  · cases h
def ck_dup_x1 : mCk := fun _ i len _ _ => decide (i = .dup_x1) && Nat.beq len 1
def sf_dup_x1 : mSf := fun _ _ _ L st W9 => match st with
  | a :: b :: r => bif Nat.beq a.category 1 && Nat.beq b.category 1 then some (L, a :: b :: a :: r, W9) else none
  | _ => none
theorem sim_dup_x1 : SimS (ck_dup_x1, sf_dup_x1) := by
  intro X cells slots ad L st W9 pc nx i len x v L' st' W' hX hY hro hce hsl hd hnx hc h kk
  subst hnx
  simp only [ck_dup_x1, sf_dup_x1] at hc h
  simp only [Bool.and_eq_true, decide_eq_true_eq] at hc
  obtain ⟨rfl, hl⟩ := hc
  cases Nat.eq_of_beq_eq_true hl
  split at h
  · rename_i a b r
    cases hb : (Nat.beq a.category 1 && Nat.beq b.category 1) with
    | true =>
      rw [hb] at h
      cases h
      simp only [Bool.and_eq_true] at hb
      exact o_dup_x1 hX (Nat.eq_of_beq_eq_true hb.1) (Nat.eq_of_beq_eq_true hb.2) hd kk
    | false => rw [hb] at h; cases h
  · cases h
def ck_dup2 : mCk := fun _ i len _ _ => decide (i = .dup2) && Nat.beq len 1
def sf_dup2 : mSf := fun _ _ _ L st W9 => match st with
  | a :: b :: r => bif Nat.beq a.category 1 && Nat.beq b.category 1 then some (L, a :: b :: a :: b :: r, W9) else none
  | _ => none
theorem sim_dup2 : SimS (ck_dup2, sf_dup2) := by
  intro X cells slots ad L st W9 pc nx i len x v L' st' W' hX hY hro hce hsl hd hnx hc h kk
  subst hnx
  simp only [ck_dup2, sf_dup2] at hc h
  simp only [Bool.and_eq_true, decide_eq_true_eq] at hc
  obtain ⟨rfl, hl⟩ := hc
  cases Nat.eq_of_beq_eq_true hl
  split at h
  · rename_i a b r
    cases hb : (Nat.beq a.category 1 && Nat.beq b.category 1) with
    | true =>
      rw [hb] at h
      cases h
      simp only [Bool.and_eq_true] at hb
      exact o_dup2 hX (Nat.eq_of_beq_eq_true hb.1) (Nat.eq_of_beq_eq_true hb.2) hd kk
    | false => rw [hb] at h; cases h
  · cases h
def ck_iload : mCk := fun _ i len x _ => match i, x with
  | .iload j, [n] => Nat.beq j n && Nat.beq len 2
  | .iload_n j, [n] => Nat.beq j n && Nat.beq len 1
  | _, _ => false
def sf_iload : mSf := fun _ x _ L st W9 => match x with
  | [n] => (match lget L n with
    | some (.int a) => some (L, .int a :: st, W9)
    | _ => none)
  | _ => none
theorem sim_iload : SimS (ck_iload, sf_iload) := by
  intro X cells slots ad L st W9 pc nx i len x v L' st' W' hX hY hro hce hsl hd hnx hc h kk
  subst hnx
  simp only [ck_iload, sf_iload] at hc h
  split at h
  · rename_i n
    split at h
    · rename_i a ha
      cases h
      split at hc
      · rename_i hx
        cases hx
        simp only [Bool.and_eq_true] at hc
        obtain ⟨h1, hl⟩ := hc
        cases Nat.eq_of_beq_eq_true hl
        cases Nat.eq_of_beq_eq_true h1
        exact o_iload hX ha hd kk
      · rename_i hx
        cases hx
        simp only [Bool.and_eq_true] at hc
        obtain ⟨h1, hl⟩ := hc
        cases Nat.eq_of_beq_eq_true hl
        exact o_iload_n hX (Nat.eq_of_beq_eq_true h1) ha hd kk
      · cases hc
    · cases h
  · cases h
def ck_aload : mCk := fun _ i len x _ => match i, x with
  | .aload j, [n] => Nat.beq j n && Nat.beq len 2
  | .aload_n j, [n] => Nat.beq j n && Nat.beq len 1
  | _, _ => false
def sf_aload : mSf := fun _ x _ L st W9 => match x with
  | [n] => (match lget L n with
    | some (.ref a) => some (L, .ref a :: st, W9)
    | _ => none)
  | _ => none
theorem sim_aload : SimS (ck_aload, sf_aload) := by
  intro X cells slots ad L st W9 pc nx i len x v L' st' W' hX hY hro hce hsl hd hnx hc h kk
  subst hnx
  simp only [ck_aload, sf_aload] at hc h
  split at h
  · rename_i n
    split at h
    · rename_i a ha
      cases h
      split at hc
      · rename_i hx
        cases hx
        simp only [Bool.and_eq_true] at hc
        obtain ⟨h1, hl⟩ := hc
        cases Nat.eq_of_beq_eq_true hl
        cases Nat.eq_of_beq_eq_true h1
        exact o_aload hX ha hd kk
      · rename_i hx
        cases hx
        simp only [Bool.and_eq_true] at hc
        obtain ⟨h1, hl⟩ := hc
        cases Nat.eq_of_beq_eq_true hl
        exact o_aload_n hX (Nat.eq_of_beq_eq_true h1) ha hd kk
      · cases hc
    · cases h
  · cases h
def ck_fload : mCk := fun _ i len x _ => match i, x with
  | .fload j, [n] => Nat.beq j n && Nat.beq len 2
  | .fload_n j, [n] => Nat.beq j n && Nat.beq len 1
  | _, _ => false
def sf_fload : mSf := fun _ x _ L st W9 => match x with
  | [n] => (match lget L n with
    | some (.float a) => some (L, .float a :: st, W9)
    | _ => none)
  | _ => none
theorem sim_fload : SimS (ck_fload, sf_fload) := by
  intro X cells slots ad L st W9 pc nx i len x v L' st' W' hX hY hro hce hsl hd hnx hc h kk
  subst hnx
  simp only [ck_fload, sf_fload] at hc h
  split at h
  · rename_i n
    split at h
    · rename_i a ha
      cases h
      split at hc
      · rename_i hx
        cases hx
        simp only [Bool.and_eq_true] at hc
        obtain ⟨h1, hl⟩ := hc
        cases Nat.eq_of_beq_eq_true hl
        cases Nat.eq_of_beq_eq_true h1
        exact o_fload hX ha hd kk
      · rename_i hx
        cases hx
        simp only [Bool.and_eq_true] at hc
        obtain ⟨h1, hl⟩ := hc
        cases Nat.eq_of_beq_eq_true hl
        exact o_fload_n hX (Nat.eq_of_beq_eq_true h1) ha hd kk
      · cases hc
    · cases h
  · cases h
def ck_dload : mCk := fun _ i len x _ => match i, x with
  | .dload j, [n] => Nat.beq j n && Nat.beq len 2
  | .dload_n j, [n] => Nat.beq j n && Nat.beq len 1
  | _, _ => false
def sf_dload : mSf := fun _ x _ L st W9 => match x with
  | [n] => (match lget L n with
    | some (.double a) => some (L, .double a :: st, W9)
    | _ => none)
  | _ => none
theorem sim_dload : SimS (ck_dload, sf_dload) := by
  intro X cells slots ad L st W9 pc nx i len x v L' st' W' hX hY hro hce hsl hd hnx hc h kk
  subst hnx
  simp only [ck_dload, sf_dload] at hc h
  split at h
  · rename_i n
    split at h
    · rename_i a ha
      cases h
      split at hc
      · rename_i hx
        cases hx
        simp only [Bool.and_eq_true] at hc
        obtain ⟨h1, hl⟩ := hc
        cases Nat.eq_of_beq_eq_true hl
        cases Nat.eq_of_beq_eq_true h1
        exact o_dload hX ha hd kk
      · rename_i hx
        cases hx
        simp only [Bool.and_eq_true] at hc
        obtain ⟨h1, hl⟩ := hc
        cases Nat.eq_of_beq_eq_true hl
        exact o_dload_n hX (Nat.eq_of_beq_eq_true h1) ha hd kk
      · cases hc
    · cases h
  · cases h
def ck_lload : mCk := fun _ i len x _ => match i, x with
  | .lload j, [n] => Nat.beq j n && Nat.beq len 2
  | .lload_n j, [n] => Nat.beq j n && Nat.beq len 1
  | _, _ => false
def sf_lload : mSf := fun _ x _ L st W9 => match x with
  | [n] => (match lget L n with
    | some (.long a) => some (L, .long a :: st, W9)
    | _ => none)
  | _ => none
theorem sim_lload : SimS (ck_lload, sf_lload) := by
  intro X cells slots ad L st W9 pc nx i len x v L' st' W' hX hY hro hce hsl hd hnx hc h kk
  subst hnx
  simp only [ck_lload, sf_lload] at hc h
  split at h
  · rename_i n
    split at h
    · rename_i a ha
      cases h
      split at hc
      · rename_i hx
        cases hx
        simp only [Bool.and_eq_true] at hc
        obtain ⟨h1, hl⟩ := hc
        cases Nat.eq_of_beq_eq_true hl
        cases Nat.eq_of_beq_eq_true h1
        exact o_lload hX ha hd kk
      · rename_i hx
        cases hx
        simp only [Bool.and_eq_true] at hc
        obtain ⟨h1, hl⟩ := hc
        cases Nat.eq_of_beq_eq_true hl
        exact o_lload_n hX (Nat.eq_of_beq_eq_true h1) ha hd kk
      · cases hc
    · cases h
  · cases h
def ck_istore : mCk := fun k i len x _ => match i, x with
  | .istore j, [n] => Nat.beq j n && Nat.beq len 2 && Nat.blt n (mml k)
  | .istore_n j, [n] => Nat.beq j n && Nat.beq len 1 && Nat.blt n (mml k)
  | _, _ => false
def sf_istore : mSf := fun _ x _ L st W9 => match x, st with
  | [n], .int a :: r => bif okp L n then mset L n (.int a) (fun l => some (l, r, W9)) none else none
  | _, _ => none
theorem sim_istore : SimS (ck_istore, sf_istore) := by
  intro X cells slots ad L st W9 pc nx i len x v L' st' W' hX hY hro hce hsl hd hnx hc h kk
  subst hnx
  simp only [ck_istore, sf_istore] at hc h
  split at h
  · rename_i n a r
    cases hb : okp L n with
    | true =>
      rw [hb] at h
      obtain ⟨rfl, rfl, rfl⟩ := lset_some (show mset L n (.int a) (fun l => some (l, r, W9)) none = some (L', st', W') from h)
      split at hc
      · rename_i hx
        cases hx
        simp only [Bool.and_eq_true] at hc
        obtain ⟨⟨h1, hl⟩, hm⟩ := hc
        cases Nat.eq_of_beq_eq_true hl
        cases Nat.eq_of_beq_eq_true h1
        exact o_istore hX hb (Nat.le_of_ble_eq_true hm) hd kk
      · rename_i hx
        cases hx
        simp only [Bool.and_eq_true] at hc
        obtain ⟨⟨h1, hl⟩, hm⟩ := hc
        cases Nat.eq_of_beq_eq_true hl
        exact o_istore_n hX (Nat.eq_of_beq_eq_true h1) hb (Nat.le_of_ble_eq_true hm) hd kk
      · cases hc
    | false => rw [hb] at h; cases h
  · cases h
def ck_astore : mCk := fun k i len x _ => match i, x with
  | .astore j, [n] => Nat.beq j n && Nat.beq len 2 && Nat.blt n (mml k)
  | .astore_n j, [n] => Nat.beq j n && Nat.beq len 1 && Nat.blt n (mml k)
  | _, _ => false
def sf_astore : mSf := fun _ x _ L st W9 => match x, st with
  | [n], .ref a :: r => bif okp L n then mset L n (.ref a) (fun l => some (l, r, W9)) none else none
  | _, _ => none
theorem sim_astore : SimS (ck_astore, sf_astore) := by
  intro X cells slots ad L st W9 pc nx i len x v L' st' W' hX hY hro hce hsl hd hnx hc h kk
  subst hnx
  simp only [ck_astore, sf_astore] at hc h
  split at h
  · rename_i n a r
    cases hb : okp L n with
    | true =>
      rw [hb] at h
      obtain ⟨rfl, rfl, rfl⟩ := lset_some (show mset L n (.ref a) (fun l => some (l, r, W9)) none = some (L', st', W') from h)
      split at hc
      · rename_i hx
        cases hx
        simp only [Bool.and_eq_true] at hc
        obtain ⟨⟨h1, hl⟩, hm⟩ := hc
        cases Nat.eq_of_beq_eq_true hl
        cases Nat.eq_of_beq_eq_true h1
        exact o_astore hX hb (Nat.le_of_ble_eq_true hm) hd kk
      · rename_i hx
        cases hx
        simp only [Bool.and_eq_true] at hc
        obtain ⟨⟨h1, hl⟩, hm⟩ := hc
        cases Nat.eq_of_beq_eq_true hl
        exact o_astore_n hX (Nat.eq_of_beq_eq_true h1) hb (Nat.le_of_ble_eq_true hm) hd kk
      · cases hc
    | false => rw [hb] at h; cases h
  · cases h
def ck_fstore : mCk := fun k i len x _ => match i, x with
  | .fstore j, [n] => Nat.beq j n && Nat.beq len 2 && Nat.blt n (mml k)
  | .fstore_n j, [n] => Nat.beq j n && Nat.beq len 1 && Nat.blt n (mml k)
  | _, _ => false
def sf_fstore : mSf := fun _ x _ L st W9 => match x, st with
  | [n], .float a :: r => bif okp L n then mset L n (.float a) (fun l => some (l, r, W9)) none else none
  | _, _ => none
theorem sim_fstore : SimS (ck_fstore, sf_fstore) := by
  intro X cells slots ad L st W9 pc nx i len x v L' st' W' hX hY hro hce hsl hd hnx hc h kk
  subst hnx
  simp only [ck_fstore, sf_fstore] at hc h
  split at h
  · rename_i n a r
    cases hb : okp L n with
    | true =>
      rw [hb] at h
      obtain ⟨rfl, rfl, rfl⟩ := lset_some (show mset L n (.float a) (fun l => some (l, r, W9)) none = some (L', st', W') from h)
      split at hc
      · rename_i hx
        cases hx
        simp only [Bool.and_eq_true] at hc
        obtain ⟨⟨h1, hl⟩, hm⟩ := hc
        cases Nat.eq_of_beq_eq_true hl
        cases Nat.eq_of_beq_eq_true h1
        exact o_fstore hX hb (Nat.le_of_ble_eq_true hm) hd kk
      · rename_i hx
        cases hx
        simp only [Bool.and_eq_true] at hc
        obtain ⟨⟨h1, hl⟩, hm⟩ := hc
        cases Nat.eq_of_beq_eq_true hl
        exact o_fstore_n hX (Nat.eq_of_beq_eq_true h1) hb (Nat.le_of_ble_eq_true hm) hd kk
      · cases hc
    | false => rw [hb] at h; cases h
  · cases h
def ck_dstore : mCk := fun k i len x _ => match i, x with
  | .dstore j, [n] => Nat.beq j n && Nat.beq len 2 && Nat.blt (n + 1) (mml k)
  | .dstore_n j, [n] => Nat.beq j n && Nat.beq len 1 && Nat.blt (n + 1) (mml k)
  | _, _ => false
def sf_dstore : mSf := fun _ x _ L st W9 => match x, st with
  | [n], .double a :: r => bif okp L n then mset L n (.double a) (fun l => mset l (n + 1) (.retAddr 0) (fun l => some (l, r, W9)) none) none else none
  | _, _ => none
theorem sim_dstore : SimS (ck_dstore, sf_dstore) := by
  intro X cells slots ad L st W9 pc nx i len x v L' st' W' hX hY hro hce hsl hd hnx hc h kk
  subst hnx
  simp only [ck_dstore, sf_dstore] at hc h
  split at h
  · rename_i n a r
    cases hb : okp L n with
    | true =>
      rw [hb] at h
      have h9 : mset L n (.double a) (fun l => mset l (n + 1) (.retAddr 0) (fun l => some (l, r, W9)) none) none = some (L', st', W') := h
      rw [mset_eq] at h9
      by_cases hi : n < L.length
      · rw [if_pos hi] at h9
        obtain ⟨rfl, rfl, rfl⟩ := lset_some h9
        split at hc
        · rename_i hx
          cases hx
          simp only [Bool.and_eq_true] at hc
          obtain ⟨⟨h1, hl⟩, hm⟩ := hc
          cases Nat.eq_of_beq_eq_true hl
          cases Nat.eq_of_beq_eq_true h1
          exact o_dstore hX hb (Nat.le_of_ble_eq_true hm) hd kk
        · rename_i hx
          cases hx
          simp only [Bool.and_eq_true] at hc
          obtain ⟨⟨h1, hl⟩, hm⟩ := hc
          cases Nat.eq_of_beq_eq_true hl
          exact o_dstore_n hX (Nat.eq_of_beq_eq_true h1) hb (Nat.le_of_ble_eq_true hm) hd kk
        · cases hc
      · rw [if_neg hi] at h9; cases h9
    | false => rw [hb] at h; cases h
  · cases h
def ck_iinc : mCk := fun k i len x v => match i, x, v with
  | .iinc j c, [n], .int a => Nat.beq j n && decide (Int32.ofInt c = a) && Nat.beq len 3 && Nat.blt n (mml k)
  | _, _, _ => false
def sf_iinc : mSf := fun _ x v L st W9 => match x, v with
  | [n], .int a => bif okp L n then (match lget L n with
    | some (.int b) => mset L n (.int (b + a)) (fun l => some (l, st, W9)) none
    | _ => none) else none
  | _, _ => none
theorem sim_iinc : SimS (ck_iinc, sf_iinc) := by
  intro X cells slots ad L st W9 pc nx i len x v L' st' W' hX hY hro hce hsl hd hnx hc h kk
  subst hnx
  simp only [ck_iinc, sf_iinc] at hc h
  split at h
  · rename_i n a
    cases hb : okp L n with
    | true =>
      rw [hb] at h
      simp only [cond_true] at h
      split at h
      · rename_i b ha
        obtain ⟨rfl, rfl, rfl⟩ := lset_some h
        split at hc
        · rename_i j c n9 a9 hx hv
          cases hx
          cases hv
          simp only [Bool.and_eq_true, decide_eq_true_eq] at hc
          obtain ⟨⟨⟨h1, h2⟩, hl⟩, hm⟩ := hc
          cases Nat.eq_of_beq_eq_true hl
          cases Nat.eq_of_beq_eq_true h1
          exact o_iinc hX ha h2 hb (Nat.le_of_ble_eq_true hm) hd kk
        · cases hc
      · cases h
    | false => rw [hb] at h; cases h
  · cases h
def ck_getfield : mCk := fun k i len x _ => match i, x with
  | .getfield index, [ci, kf, n] => (match vwCl[ci]? with
    | some (_, T, N) => Nat.blt kf N && uok ci && wck n (.fieldLink (mnm k).cls index (T kf).1 (T kf).2.1 (T kf).2.2.1) && Nat.beq len 3
    | none => false)
  | _, _ => false
def sf_getfield : mSf := fun RO x _ L st W9 => match x, st with
  | [ci, kf, _], .ref q :: r => (match mget RO W9 q with
    | some (.inr (cj, fs)) => bif Nat.beq ci cj then (match fs[kf]? with
      | some u => some (L, u :: r, W9)
      | none => none) else none
    | _ => none)
  | _, _ => none
theorem sim_getfield : SimS (ck_getfield, sf_getfield) := by
  intro X cells slots ad L st W9 pc nx i len x v L' st' W' hX hY hro hce hsl hd hnx hc h kk
  subst hnx
  simp only [ck_getfield, sf_getfield] at hc h
  split at h
  · rename_i ci kf n q r
    split at h
    · rename_i cj fs hg
      cases hb : Nat.beq ci cj with
      | true =>
        rw [hb] at h
        simp only [cond_true] at h
        cases Nat.eq_of_beq_eq_true hb
        split at h
        · rename_i u hu
          cases h
          split at hc
          · rename_i index ci9 kf9 n9 hx
            cases hx
            split at hc
            · rename_i C T N hcl
              simp only [Bool.and_eq_true] at hc
              obtain ⟨⟨⟨h1, h2⟩, h3⟩, hl⟩ := hc
              cases Nat.eq_of_beq_eq_true hl
              exact o_getfield hX hro hcl h2 (Nat.le_of_ble_eq_true h1) (wck_1 h3) (wck_2 h3) hg hu hd kk
            · cases hc
          · cases hc
        · cases h
      | false => rw [hb] at h; cases h
    · cases h
  · cases h
def ck_getfieldN : mCk := fun k i len x _ => match i, x with
  | .getfield index, [ci, kf, n] => (match vwCl[ci]? with
    | some (_, T, N) => Nat.blt kf N && uok ci && wck n (.fieldLinkNest (mnm k).cls index (T kf).1 (T kf).2.1 (T kf).2.2.1 "MuleTrain") && Nat.beq len 3
    | none => false)
  | _, _ => false
def sf_getfieldN : mSf := fun RO x _ L st W9 => match x, st with
  | [ci, kf, _], .ref q :: r => (match mget RO W9 q with
    | some (.inr (cj, fs)) => bif Nat.beq ci cj then (match fs[kf]? with
      | some u => some (L, u :: r, W9)
      | none => none) else none
    | _ => none)
  | _, _ => none
theorem sim_getfieldN : SimS (ck_getfieldN, sf_getfieldN) := by
  intro X cells slots ad L st W9 pc nx i len x v L' st' W' hX hY hro hce hsl hd hnx hc h kk
  subst hnx
  simp only [ck_getfieldN, sf_getfieldN] at hc h
  split at h
  · rename_i ci kf n q r
    split at h
    · rename_i cj fs hg
      cases hb : Nat.beq ci cj with
      | true =>
        rw [hb] at h
        simp only [cond_true] at h
        cases Nat.eq_of_beq_eq_true hb
        split at h
        · rename_i u hu
          cases h
          split at hc
          · rename_i index ci9 kf9 n9 hx
            cases hx
            split at hc
            · rename_i C T N hcl
              simp only [Bool.and_eq_true] at hc
              obtain ⟨⟨⟨h1, h2⟩, h3⟩, hl⟩ := hc
              cases Nat.eq_of_beq_eq_true hl
              exact o_getfieldN hX hro hcl h2 (Nat.le_of_ble_eq_true h1) (wck_1 h3) (wck_2 h3) hg hu hd kk
            · cases hc
          · cases hc
        · cases h
      | false => rw [hb] at h; cases h
    · cases h
  · cases h
def ck_putfield : mCk := fun k i len x _ => match i, x with
  | .putfield index, [ci, kf, n, t] => (match vwCl[ci]? with
    | some (_, T, N) => Nat.blt kf N && uok ci && wck n (.fieldLink (mnm k).cls index (T kf).1 (T kf).2.1 (T kf).2.2.1) && (!(T kf).2.2.2) && (bif Nat.beq t 0 then decide (tyf ci kf = .int) else refKind (tyf ci kf)) && Nat.beq len 3
    | none => false)
  | _, _ => false
def sf_putfield : mSf := fun _ x _ L st W9 => match x, st with
  | [ci, kf, _, t], u :: .ref q :: r => bif Nat.blt q 1000000 && vkt u t then (match W9[q]? with
    | some (.inr (cj, fs)) => bif Nat.beq ci cj && Nat.blt kf fs.length then mset fs kf u (fun fs2 => mset W9 q (.inr (ci, fs2)) (fun w => some (L, r, w)) none) none else none
    | _ => none) else none
  | _, _ => none
theorem sim_putfield : SimS (ck_putfield, sf_putfield) := by
  intro X cells slots ad L st W9 pc nx i len x v L' st' W' hX hY hro hce hsl hd hnx hc h kk
  subst hnx
  simp only [ck_putfield, sf_putfield] at hc h
  split at h
  · rename_i ci kf n t u q r
    cases hb : (Nat.blt q 1000000 && vkt u t) with
    | true =>
      rw [hb] at h
      simp only [cond_true] at h
      simp only [Bool.and_eq_true] at hb
      obtain ⟨hq, hu⟩ := hb
      split at h
      · rename_i cj fs hg
        cases hb2 : (Nat.beq ci cj && Nat.blt kf fs.length) with
        | true =>
          rw [hb2] at h
          simp only [cond_true] at h
          simp only [Bool.and_eq_true] at hb2
          obtain ⟨hcj, hlen⟩ := hb2
          cases Nat.eq_of_beq_eq_true hcj
          rw [mset_eq] at h
          rw [if_pos (show kf < fs.length from Nat.le_of_ble_eq_true hlen)] at h
          obtain ⟨rfl, rfl, rfl⟩ := wset_some h
          split at hc
          · rename_i index ci9 kf9 n9 t9 hx
            cases hx
            split at hc
            · rename_i C T N hcl
              simp only [Bool.and_eq_true] at hc
              obtain ⟨⟨⟨⟨⟨h1, h2⟩, h3⟩, h4⟩, h5⟩, hl⟩ := hc
              cases Nat.eq_of_beq_eq_true hl
              have hnf : (∀ z, narrow (tyf ci kf) (cz z u) = cz z u) ∧ ∀ z, fits (tyf ci kf) (cz z u) = true := by
                cases ht : Nat.beq t 0 with
                | true =>
                  rw [ht] at h5
                  simp only [cond_true, decide_eq_true_eq] at h5
                  have h0 := Nat.eq_of_beq_eq_true ht
                  subst h0
                  rw [h5]
                  cases u with
                  | int a => exact ⟨fun _ => rfl, fun _ => rfl⟩
                  | _ => exact absurd hu (by simp [vkt])
                | false =>
                  rw [ht] at h5
                  simp only [cond_false] at h5
                  cases u with
                  | int a => exact absurd hu (by simp only [vkt]; rw [ht]; decide)
                  | ref a =>
                    cases hty : tyf ci kf with
                    | object n => exact ⟨fun _ => rfl, fun _ => rfl⟩
                    | array n => exact ⟨fun _ => rfl, fun _ => rfl⟩
                    | _ => rw [hty] at h5; cases h5
                  | null =>
                    cases hty : tyf ci kf with
                    | object n => exact ⟨fun _ => rfl, fun _ => rfl⟩
                    | array n => exact ⟨fun _ => rfl, fun _ => rfl⟩
                    | _ => rw [hty] at h5; cases h5
                  | _ => exact absurd hu (by simp [vkt])
              exact o_putfield hX hcl h2 (Nat.le_of_ble_eq_true h1) (by simpa using h4) (wck_1 h3) (wck_2 h3) hq hg hnf.1 hnf.2 (Nat.le_of_ble_eq_true hlen) hd kk
            · cases hc
          · cases hc
        | false => rw [hb2] at h; cases h
      · cases h
    | false => rw [hb] at h; cases h
  · cases h
def ck_putfieldN : mCk := fun k i len x _ => match i, x with
  | .putfield index, [ci, kf, n, t] => (match vwCl[ci]? with
    | some (_, T, N) => Nat.blt kf N && uok ci && wck n (.fieldLinkNest (mnm k).cls index (T kf).1 (T kf).2.1 (T kf).2.2.1 "MuleTrain") && (!(T kf).2.2.2) && (bif Nat.beq t 0 then decide (tyf ci kf = .int) else refKind (tyf ci kf)) && Nat.beq len 3
    | none => false)
  | _, _ => false
def sf_putfieldN : mSf := fun _ x _ L st W9 => match x, st with
  | [ci, kf, _, t], u :: .ref q :: r => bif Nat.blt q 1000000 && vkt u t then (match W9[q]? with
    | some (.inr (cj, fs)) => bif Nat.beq ci cj && Nat.blt kf fs.length then mset fs kf u (fun fs2 => mset W9 q (.inr (ci, fs2)) (fun w => some (L, r, w)) none) none else none
    | _ => none) else none
  | _, _ => none
theorem sim_putfieldN : SimS (ck_putfieldN, sf_putfieldN) := by
  intro X cells slots ad L st W9 pc nx i len x v L' st' W' hX hY hro hce hsl hd hnx hc h kk
  subst hnx
  simp only [ck_putfieldN, sf_putfieldN] at hc h
  split at h
  · rename_i ci kf n t u q r
    cases hb : (Nat.blt q 1000000 && vkt u t) with
    | true =>
      rw [hb] at h
      simp only [cond_true] at h
      simp only [Bool.and_eq_true] at hb
      obtain ⟨hq, hu⟩ := hb
      split at h
      · rename_i cj fs hg
        cases hb2 : (Nat.beq ci cj && Nat.blt kf fs.length) with
        | true =>
          rw [hb2] at h
          simp only [cond_true] at h
          simp only [Bool.and_eq_true] at hb2
          obtain ⟨hcj, hlen⟩ := hb2
          cases Nat.eq_of_beq_eq_true hcj
          rw [mset_eq] at h
          rw [if_pos (show kf < fs.length from Nat.le_of_ble_eq_true hlen)] at h
          obtain ⟨rfl, rfl, rfl⟩ := wset_some h
          split at hc
          · rename_i index ci9 kf9 n9 t9 hx
            cases hx
            split at hc
            · rename_i C T N hcl
              simp only [Bool.and_eq_true] at hc
              obtain ⟨⟨⟨⟨⟨h1, h2⟩, h3⟩, h4⟩, h5⟩, hl⟩ := hc
              cases Nat.eq_of_beq_eq_true hl
              have hnf : (∀ z, narrow (tyf ci kf) (cz z u) = cz z u) ∧ ∀ z, fits (tyf ci kf) (cz z u) = true := by
                cases ht : Nat.beq t 0 with
                | true =>
                  rw [ht] at h5
                  simp only [cond_true, decide_eq_true_eq] at h5
                  have h0 := Nat.eq_of_beq_eq_true ht
                  subst h0
                  rw [h5]
                  cases u with
                  | int a => exact ⟨fun _ => rfl, fun _ => rfl⟩
                  | _ => exact absurd hu (by simp [vkt])
                | false =>
                  rw [ht] at h5
                  simp only [cond_false] at h5
                  cases u with
                  | int a => exact absurd hu (by simp only [vkt]; rw [ht]; decide)
                  | ref a =>
                    cases hty : tyf ci kf with
                    | object n => exact ⟨fun _ => rfl, fun _ => rfl⟩
                    | array n => exact ⟨fun _ => rfl, fun _ => rfl⟩
                    | _ => rw [hty] at h5; cases h5
                  | null =>
                    cases hty : tyf ci kf with
                    | object n => exact ⟨fun _ => rfl, fun _ => rfl⟩
                    | array n => exact ⟨fun _ => rfl, fun _ => rfl⟩
                    | _ => rw [hty] at h5; cases h5
                  | _ => exact absurd hu (by simp [vkt])
              exact o_putfieldN hX hcl h2 (Nat.le_of_ble_eq_true h1) (by simpa using h4) (wck_1 h3) (wck_2 h3) hq hg hnf.1 hnf.2 (Nat.le_of_ble_eq_true hlen) hd kk
            · cases hc
          · cases hc
        | false => rw [hb2] at h; cases h
      · cases h
    | false => rw [hb] at h; cases h
  · cases h
def ck_putfieldF : mCk := fun k i len x _ => match i, x with
  | .putfield index, [ci, kf, n, t] => (match vwCl[ci]? with
    | some (_, T, N) => Nat.blt kf N && uok ci && wck n (.fieldLink (mnm k).cls index (T kf).1 (T kf).2.1 (T kf).2.2.1) && ((T kf).2.2.2 && mini k && decide ((T kf).1 = (mnm k).cls)) && (bif Nat.beq t 0 then decide (tyf ci kf = .int) else refKind (tyf ci kf)) && Nat.beq len 3
    | none => false)
  | _, _ => false
def sf_putfieldF : mSf := fun _ x _ L st W9 => match x, st with
  | [ci, kf, _, t], u :: .ref q :: r => bif Nat.blt q 1000000 && vkt u t then (match W9[q]? with
    | some (.inr (cj, fs)) => bif Nat.beq ci cj && Nat.blt kf fs.length then mset fs kf u (fun fs2 => mset W9 q (.inr (ci, fs2)) (fun w => some (L, r, w)) none) none else none
    | _ => none) else none
  | _, _ => none
theorem sim_putfieldF : SimS (ck_putfieldF, sf_putfieldF) := by
  intro X cells slots ad L st W9 pc nx i len x v L' st' W' hX hY hro hce hsl hd hnx hc h kk
  subst hnx
  simp only [ck_putfieldF, sf_putfieldF] at hc h
  split at h
  · rename_i ci kf n t u q r
    cases hb : (Nat.blt q 1000000 && vkt u t) with
    | true =>
      rw [hb] at h
      simp only [cond_true] at h
      simp only [Bool.and_eq_true] at hb
      obtain ⟨hq, hu⟩ := hb
      split at h
      · rename_i cj fs hg
        cases hb2 : (Nat.beq ci cj && Nat.blt kf fs.length) with
        | true =>
          rw [hb2] at h
          simp only [cond_true] at h
          simp only [Bool.and_eq_true] at hb2
          obtain ⟨hcj, hlen⟩ := hb2
          cases Nat.eq_of_beq_eq_true hcj
          rw [mset_eq] at h
          rw [if_pos (show kf < fs.length from Nat.le_of_ble_eq_true hlen)] at h
          obtain ⟨rfl, rfl, rfl⟩ := wset_some h
          split at hc
          · rename_i index ci9 kf9 n9 t9 hx
            cases hx
            split at hc
            · rename_i C T N hcl
              simp only [Bool.and_eq_true] at hc
              obtain ⟨⟨⟨⟨⟨h1, h2⟩, h3⟩, h4⟩, h5⟩, hl⟩ := hc
              cases Nat.eq_of_beq_eq_true hl
              have hnf : (∀ z, narrow (tyf ci kf) (cz z u) = cz z u) ∧ ∀ z, fits (tyf ci kf) (cz z u) = true := by
                cases ht : Nat.beq t 0 with
                | true =>
                  rw [ht] at h5
                  simp only [cond_true, decide_eq_true_eq] at h5
                  have h0 := Nat.eq_of_beq_eq_true ht
                  subst h0
                  rw [h5]
                  cases u with
                  | int a => exact ⟨fun _ => rfl, fun _ => rfl⟩
                  | _ => exact absurd hu (by simp [vkt])
                | false =>
                  rw [ht] at h5
                  simp only [cond_false] at h5
                  cases u with
                  | int a => exact absurd hu (by simp only [vkt]; rw [ht]; decide)
                  | ref a =>
                    cases hty : tyf ci kf with
                    | object n => exact ⟨fun _ => rfl, fun _ => rfl⟩
                    | array n => exact ⟨fun _ => rfl, fun _ => rfl⟩
                    | _ => rw [hty] at h5; cases h5
                  | null =>
                    cases hty : tyf ci kf with
                    | object n => exact ⟨fun _ => rfl, fun _ => rfl⟩
                    | array n => exact ⟨fun _ => rfl, fun _ => rfl⟩
                    | _ => rw [hty] at h5; cases h5
                  | _ => exact absurd hu (by simp [vkt])
              exact (by simp only [Bool.and_eq_true, decide_eq_true_eq] at h4; exact o_putfieldF hX hcl h2 (Nat.le_of_ble_eq_true h1) h4.1.1 h4.1.2 h4.2 (wck_1 h3) (wck_2 h3) hq hg hnf.1 hnf.2 (Nat.le_of_ble_eq_true hlen) hd kk)
            · cases hc
          · cases hc
        | false => rw [hb2] at h; cases h
      · cases h
    | false => rw [hb] at h; cases h
  · cases h
def ck_alen : mCk := fun _ i len _ _ => decide (i = .arraylength) && Nat.beq len 1
def sf_alen : mSf := fun RO _ _ L st W9 => match st with
  | .ref q :: r => (match mget RO W9 q with
    | some (.inl (t, n, _)) => bif Nat.blt t 6 then some (L, .int (Int32.ofNat n) :: r, W9) else none
    | _ => none)
  | _ => none
theorem sim_alen : SimS (ck_alen, sf_alen) := by
  intro X cells slots ad L st W9 pc nx i len x v L' st' W' hX hY hro hce hsl hd hnx hc h kk
  subst hnx
  simp only [ck_alen, sf_alen] at hc h
  simp only [Bool.and_eq_true, decide_eq_true_eq] at hc
  obtain ⟨rfl, hl⟩ := hc
  cases Nat.eq_of_beq_eq_true hl
  split at h
  · split at h
    · rename_i t n a hg
      cases hb : Nat.blt t 6 with
      | true =>
        rw [hb] at h
        cases h
        exact o_alen hX (Nat.le_of_ble_eq_true hb) hg hd kk
      | false => rw [hb] at h; cases h
    · cases h
  · cases h
def ck_mmax : mCk := fun k i len x _ => match i, x with
  | .invokestatic index, [n1, n2, n3, n4] => wck n1 (.methodLink (mnm k).cls index Lib.Math.max.name) && wck n2 (.static Lib.Math.max.name) && wck n3 (.initialized "java/lang/Math") && wck n4 (.code Lib.Math.max.name Lib.Math.max.code 2 (some .int)) && Nat.beq len 3
  | _, _ => false
def sf_mmax : mSf := fun _ _ _ L st W9 => match st with
  | .int y :: .int x :: r => bif mcs r then some (L, .int (if x < y then y else x) :: r, W9) else none
  | _ => none
theorem sim_mmax : SimS (ck_mmax, sf_mmax) := by
  intro X cells slots ad L st W9 pc nx i len x v L' st' W' hX hY hro hce hsl hd hnx hc h kk
  subst hnx
  simp only [ck_mmax, sf_mmax] at hc h
  split at h
  · rename_i r
    cases hb : mcs r with
    | true =>
      rw [hb] at h
      cases h
      split at hc
      · simp only [Bool.and_eq_true] at hc
        obtain ⟨⟨⟨⟨h1, h2⟩, h3⟩, h4⟩, hl⟩ := hc
        cases Nat.eq_of_beq_eq_true hl
        exact o_mmax hX (wck_1 h1) (wck_2 h1) (wck_1 h2) (wck_2 h2) (wck_1 h3) (wck_2 h3) (wck_1 h4) (wck_2 h4) hb hce hsl hd kk
      · cases hc
    | false => rw [hb] at h; cases h
  · cases h
def ck_mmin : mCk := fun k i len x _ => match i, x with
  | .invokestatic index, [n1, n2, n3, n4] => wck n1 (.methodLink (mnm k).cls index Lib.Math.min.name) && wck n2 (.static Lib.Math.min.name) && wck n3 (.initialized "java/lang/Math") && wck n4 (.code Lib.Math.min.name Lib.Math.min.code 2 (some .int)) && Nat.beq len 3
  | _, _ => false
def sf_mmin : mSf := fun _ _ _ L st W9 => match st with
  | .int y :: .int x :: r => bif mcs r then some (L, .int (if y < x then y else x) :: r, W9) else none
  | _ => none
theorem sim_mmin : SimS (ck_mmin, sf_mmin) := by
  intro X cells slots ad L st W9 pc nx i len x v L' st' W' hX hY hro hce hsl hd hnx hc h kk
  subst hnx
  simp only [ck_mmin, sf_mmin] at hc h
  split at h
  · rename_i r
    cases hb : mcs r with
    | true =>
      rw [hb] at h
      cases h
      split at hc
      · simp only [Bool.and_eq_true] at hc
        obtain ⟨⟨⟨⟨h1, h2⟩, h3⟩, h4⟩, hl⟩ := hc
        cases Nat.eq_of_beq_eq_true hl
        exact o_mmin hX (wck_1 h1) (wck_2 h1) (wck_1 h2) (wck_2 h2) (wck_1 h3) (wck_2 h3) (wck_1 h4) (wck_2 h4) hb hce hsl hd kk
      · cases hc
    | false => rw [hb] at h; cases h
  · cases h
def ck_mabs : mCk := fun k i len x _ => match i, x with
  | .invokestatic index, [n1, n2, n3, n4] => wck n1 (.methodLink (mnm k).cls index Lib.Math.abs.name) && wck n2 (.static Lib.Math.abs.name) && wck n3 (.initialized "java/lang/Math") && wck n4 (.code Lib.Math.abs.name Lib.Math.abs.code 1 (some .int)) && Nat.beq len 3
  | _, _ => false
def sf_mabs : mSf := fun _ _ _ L st W9 => match st with
  | .int x :: r => bif mcs r then some (L, .int (if 0 ≤ x then x else 0 - x) :: r, W9) else none
  | _ => none
theorem sim_mabs : SimS (ck_mabs, sf_mabs) := by
  intro X cells slots ad L st W9 pc nx i len x v L' st' W' hX hY hro hce hsl hd hnx hc h kk
  subst hnx
  simp only [ck_mabs, sf_mabs] at hc h
  split at h
  · rename_i r
    cases hb : mcs r with
    | true =>
      rw [hb] at h
      cases h
      split at hc
      · simp only [Bool.and_eq_true] at hc
        obtain ⟨⟨⟨⟨h1, h2⟩, h3⟩, h4⟩, hl⟩ := hc
        cases Nat.eq_of_beq_eq_true hl
        exact o_mabs hX (wck_1 h1) (wck_2 h1) (wck_1 h2) (wck_2 h2) (wck_1 h3) (wck_2 h3) (wck_1 h4) (wck_2 h4) hb hce hsl hd kk
      · cases hc
    | false => rw [hb] at h; cases h
  · cases h
def ck_objInit : mCk := fun k i len x _ => match i, x with
  | .invokespecial index, [n1, n2, n3] => wck n1 (.methodLink (mnm k).cls index Lib.objectInit) && wck n2 (.instanceMethod Lib.objectInit) && wck n3 (.code Lib.objectInit ⟨#[0xb1]⟩ 1 none) && Nat.beq len 3
  | _, _ => false
def sf_objInit : mSf := fun _ _ _ L st W9 => match st with
  | .ref _ :: r => bif mcs r then some (L, r, W9) else none
  | _ => none
theorem sim_objInit : SimS (ck_objInit, sf_objInit) := by
  intro X cells slots ad L st W9 pc nx i len x v L' st' W' hX hY hro hce hsl hd hnx hc h kk
  subst hnx
  simp only [ck_objInit, sf_objInit] at hc h
  split at h
  · rename_i q r
    cases hb : mcs r with
    | true =>
      rw [hb] at h
      cases h
      split at hc
      · simp only [Bool.and_eq_true] at hc
        obtain ⟨⟨⟨h1, h2⟩, h3⟩, hl⟩ := hc
        cases Nat.eq_of_beq_eq_true hl
        exact o_objInit hX (wck_1 h1) (wck_2 h1) (wck_1 h2) (wck_2 h2) (wck_1 h3) (wck_2 h3) hb hd kk
      · cases hc
    | false => rw [hb] at h; cases h
  · cases h
def mSt : List (mCk × mSf) := [(ck_iadd, sf_iadd), (ck_isub, sf_isub), (ck_imul, sf_imul), (ck_iand, sf_iand), (ck_ior, sf_ior), (ck_ishl, sf_ishl), (ck_ishr, sf_ishr), (ck_iushr, sf_iushr), (ck_ineg, sf_ineg), (ck_i2b, sf_i2b), (ck_i2c, sf_i2c), (ck_i2l, sf_i2l), (ck_i2f, sf_i2f), (ck_i2d, sf_i2d), (ck_lcmp, sf_lcmp), (ck_fcmp, sf_fcmp), (ck_dcmp, sf_dcmp), (ck_iconst, sf_iconst), (ck_bipush, sf_bipush), (ck_sipush, sf_sipush), (ck_fconst0, sf_fconst0), (ck_dconst0, sf_dconst0), (ck_ldcS, sf_ldcS), (ck_dup, sf_dup), (ck_pop, sf_pop), (ck_dup_x1, sf_dup_x1), (ck_dup2, sf_dup2), (ck_iload, sf_iload), (ck_aload, sf_aload), (ck_fload, sf_fload), (ck_dload, sf_dload), (ck_lload, sf_lload), (ck_istore, sf_istore), (ck_astore, sf_astore), (ck_fstore, sf_fstore), (ck_dstore, sf_dstore), (ck_iinc, sf_iinc), (ck_getfield, sf_getfield), (ck_getfieldN, sf_getfieldN), (ck_putfield, sf_putfield), (ck_putfieldN, sf_putfieldN), (ck_putfieldF, sf_putfieldF), (ck_alen, sf_alen), (ck_mmax, sf_mmax), (ck_mmin, sf_mmin), (ck_mabs, sf_mabs), (ck_objInit, sf_objInit)]
theorem mSt_ok : ∀ q ∈ mSt, SimS q := List.forall_mem_cons.mpr ⟨sim_iadd, List.forall_mem_cons.mpr ⟨sim_isub, List.forall_mem_cons.mpr ⟨sim_imul, List.forall_mem_cons.mpr ⟨sim_iand, List.forall_mem_cons.mpr ⟨sim_ior, List.forall_mem_cons.mpr ⟨sim_ishl, List.forall_mem_cons.mpr ⟨sim_ishr, List.forall_mem_cons.mpr ⟨sim_iushr, List.forall_mem_cons.mpr ⟨sim_ineg, List.forall_mem_cons.mpr ⟨sim_i2b, List.forall_mem_cons.mpr ⟨sim_i2c, List.forall_mem_cons.mpr ⟨sim_i2l, List.forall_mem_cons.mpr ⟨sim_i2f, List.forall_mem_cons.mpr ⟨sim_i2d, List.forall_mem_cons.mpr ⟨sim_lcmp, List.forall_mem_cons.mpr ⟨sim_fcmp, List.forall_mem_cons.mpr ⟨sim_dcmp, List.forall_mem_cons.mpr ⟨sim_iconst, List.forall_mem_cons.mpr ⟨sim_bipush, List.forall_mem_cons.mpr ⟨sim_sipush, List.forall_mem_cons.mpr ⟨sim_fconst0, List.forall_mem_cons.mpr ⟨sim_dconst0, List.forall_mem_cons.mpr ⟨sim_ldcS, List.forall_mem_cons.mpr ⟨sim_dup, List.forall_mem_cons.mpr ⟨sim_pop, List.forall_mem_cons.mpr ⟨sim_dup_x1, List.forall_mem_cons.mpr ⟨sim_dup2, List.forall_mem_cons.mpr ⟨sim_iload, List.forall_mem_cons.mpr ⟨sim_aload, List.forall_mem_cons.mpr ⟨sim_fload, List.forall_mem_cons.mpr ⟨sim_dload, List.forall_mem_cons.mpr ⟨sim_lload, List.forall_mem_cons.mpr ⟨sim_istore, List.forall_mem_cons.mpr ⟨sim_astore, List.forall_mem_cons.mpr ⟨sim_fstore, List.forall_mem_cons.mpr ⟨sim_dstore, List.forall_mem_cons.mpr ⟨sim_iinc, List.forall_mem_cons.mpr ⟨sim_getfield, List.forall_mem_cons.mpr ⟨sim_getfieldN, List.forall_mem_cons.mpr ⟨sim_putfield, List.forall_mem_cons.mpr ⟨sim_putfieldN, List.forall_mem_cons.mpr ⟨sim_putfieldF, List.forall_mem_cons.mpr ⟨sim_alen, List.forall_mem_cons.mpr ⟨sim_mmax, List.forall_mem_cons.mpr ⟨sim_mmin, List.forall_mem_cons.mpr ⟨sim_mabs, List.forall_mem_cons.mpr ⟨sim_objInit, fun _ h => absurd h List.not_mem_nil⟩⟩⟩⟩⟩⟩⟩⟩⟩⟩⟩⟩⟩⟩⟩⟩⟩⟩⟩⟩⟩⟩⟩⟩⟩⟩⟩⟩⟩⟩⟩⟩⟩⟩⟩⟩⟩⟩⟩⟩⟩⟩⟩⟩⟩⟩⟩
end
section
/-! branches, and ops that want something -/
abbrev mCf : Type := List Value → Option (Prop × List Value)
abbrev mCc : Type := Nat → Instr → Nat → List Nat → Bool
def SimC (q : mCc × mCf) : Prop := ∀ (X : mX) (cells slots : Nat) (ad : Nat → Nat) (L st : List Value) (W9 : List mE) (pc : Nat) (i : Instr) (len tT tF : Nat) (c9 : Prop) (st' : List Value), mCx X → decode (mby (mkk X)) pc = .ok (i, len) → q.1 pc i len [tT, tF] = true → q.2 st = some (c9, st') → (c9 → mGo X cells slots ad L st' W9 tT) → (¬ c9 → mGo X cells slots ad L st' W9 tF) → mGo X cells slots ad L st W9 pc
section CONDS
variable {X : mX} {cells slots : Nat} {ad : Nat → Nat} {L r : List Value} {W9 : List mE} {pc : Nat}
theorem o_if_ne (hX : mCx X) {x : Int32} {off : Int} {t : Nat} (ht : (pc : Int) + off = (t : Int)) (hd : decode (mby (mkk X)) pc = .ok (.ifCond .ne off, 3)) (kt : (¬ x = 0) → mGo X cells slots ad L r W9 t) (kf : (x = 0) → mGo X cells slots ad L r W9 (pc + 3)) : mGo X cells slots ad L (.int x :: r) W9 pc := by
  obtain ⟨p, l, e, R, s, m, args, below, meth, c, Q, A, dC, dI, dA, adR, RO, k⟩ := X
  obtain ⟨hx, hb, hml, hown, hwA, hA, hK, hRO, hROA, hlk, hrt, hfr, hlo, hini⟩ := hX
  intro H locs ls hP hD hS hn hw hL hs hl
  exact lv_if_ne hx hb hd ht (fun h9 => kt h9 H locs ls hP hD hS hn hw hL (wv_tail hs) hl) (fun h9 => kf h9 H locs ls hP hD hS hn hw hL (wv_tail hs) hl)
theorem o_if_ge (hX : mCx X) {x : Int32} {off : Int} {t : Nat} (ht : (pc : Int) + off = (t : Int)) (hd : decode (mby (mkk X)) pc = .ok (.ifCond .ge off, 3)) (kt : (0 ≤ x) → mGo X cells slots ad L r W9 t) (kf : (¬ 0 ≤ x) → mGo X cells slots ad L r W9 (pc + 3)) : mGo X cells slots ad L (.int x :: r) W9 pc := by
  obtain ⟨p, l, e, R, s, m, args, below, meth, c, Q, A, dC, dI, dA, adR, RO, k⟩ := X
  obtain ⟨hx, hb, hml, hown, hwA, hA, hK, hRO, hROA, hlk, hrt, hfr, hlo, hini⟩ := hX
  intro H locs ls hP hD hS hn hw hL hs hl
  exact lv_if_ge hx hb hd ht (fun h9 => kt h9 H locs ls hP hD hS hn hw hL (wv_tail hs) hl) (fun h9 => kf h9 H locs ls hP hD hS hn hw hL (wv_tail hs) hl)
theorem o_icmp_ne (hX : mCx X) {x y : Int32} {off : Int} {t : Nat} (ht : (pc : Int) + off = (t : Int)) (hd : decode (mby (mkk X)) pc = .ok (.if_icmp .ne off, 3)) (kt : (¬ x = y) → mGo X cells slots ad L r W9 t) (kf : (x = y) → mGo X cells slots ad L r W9 (pc + 3)) : mGo X cells slots ad L (.int y :: .int x :: r) W9 pc := by
  obtain ⟨p, l, e, R, s, m, args, below, meth, c, Q, A, dC, dI, dA, adR, RO, k⟩ := X
  obtain ⟨hx, hb, hml, hown, hwA, hA, hK, hRO, hROA, hlk, hrt, hfr, hlo, hini⟩ := hX
  intro H locs ls hP hD hS hn hw hL hs hl
  exact lv_icmp_ne hx hb hd ht (fun h9 => kt h9 H locs ls hP hD hS hn hw hL (wv_tail (wv_tail hs)) hl) (fun h9 => kf h9 H locs ls hP hD hS hn hw hL (wv_tail (wv_tail hs)) hl)
theorem o_icmp_ge (hX : mCx X) {x y : Int32} {off : Int} {t : Nat} (ht : (pc : Int) + off = (t : Int)) (hd : decode (mby (mkk X)) pc = .ok (.if_icmp .ge off, 3)) (kt : (y ≤ x) → mGo X cells slots ad L r W9 t) (kf : (¬ y ≤ x) → mGo X cells slots ad L r W9 (pc + 3)) : mGo X cells slots ad L (.int y :: .int x :: r) W9 pc := by
  obtain ⟨p, l, e, R, s, m, args, below, meth, c, Q, A, dC, dI, dA, adR, RO, k⟩ := X
  obtain ⟨hx, hb, hml, hown, hwA, hA, hK, hRO, hROA, hlk, hrt, hfr, hlo, hini⟩ := hX
  intro H locs ls hP hD hS hn hw hL hs hl
  exact lv_icmp_ge hx hb hd ht (fun h9 => kt h9 H locs ls hP hD hS hn hw hL (wv_tail (wv_tail hs)) hl) (fun h9 => kf h9 H locs ls hP hD hS hn hw hL (wv_tail (wv_tail hs)) hl)
end CONDS
def cc_ifeq : mCc := fun pc i len x => match i, x with
  | .ifCond .eq off, [tT, tF] => decide ((pc : Int) + off = (tT : Int)) && Nat.beq tF (pc + 3) && Nat.beq len 3
  | .ifCond .ne off, [tT, tF] => decide ((pc : Int) + off = (tF : Int)) && Nat.beq tT (pc + 3) && Nat.beq len 3
  | _, _ => false
def cf_ifeq : mCf := fun st => match st with
  | .int x :: r => some (x = 0, r)
  | _ => none
theorem simc_ifeq : SimC (cc_ifeq, cf_ifeq) := by
  intro X cells slots ad L st W9 pc i len tT tF c9 st' hX hd hc h kt kf
  simp only [cc_ifeq, cf_ifeq] at hc h
  split at h
  · cases h
    split at hc
    · rename_i hx
      cases hx
      simp only [Bool.and_eq_true, decide_eq_true_eq] at hc
      obtain ⟨⟨h1, h2⟩, hl⟩ := hc
      cases Nat.eq_of_beq_eq_true hl
      cases Nat.eq_of_beq_eq_true h2
      exact o_if_eq hX h1 hd kt kf
    · rename_i hx
      cases hx
      simp only [Bool.and_eq_true, decide_eq_true_eq] at hc
      obtain ⟨⟨h1, h2⟩, hl⟩ := hc
      cases Nat.eq_of_beq_eq_true hl
      cases Nat.eq_of_beq_eq_true h2
      exact o_if_ne hX h1 hd kf kt
    · cases hc
  · cases h
def cc_iflt : mCc := fun pc i len x => match i, x with
  | .ifCond .lt off, [tT, tF] => decide ((pc : Int) + off = (tT : Int)) && Nat.beq tF (pc + 3) && Nat.beq len 3
  | .ifCond .ge off, [tT, tF] => decide ((pc : Int) + off = (tF : Int)) && Nat.beq tT (pc + 3) && Nat.beq len 3
  | _, _ => false
def cf_iflt : mCf := fun st => match st with
  | .int x :: r => some (x < 0, r)
  | _ => none
theorem simc_iflt : SimC (cc_iflt, cf_iflt) := by
  intro X cells slots ad L st W9 pc i len tT tF c9 st' hX hd hc h kt kf
  simp only [cc_iflt, cf_iflt] at hc h
  split at h
  · cases h
    split at hc
    · rename_i hx
      cases hx
      simp only [Bool.and_eq_true, decide_eq_true_eq] at hc
      obtain ⟨⟨h1, h2⟩, hl⟩ := hc
      cases Nat.eq_of_beq_eq_true hl
      cases Nat.eq_of_beq_eq_true h2
      exact o_if_lt hX h1 hd kt kf
    · rename_i hx
      cases hx
      simp only [Bool.and_eq_true, decide_eq_true_eq] at hc
      obtain ⟨⟨h1, h2⟩, hl⟩ := hc
      cases Nat.eq_of_beq_eq_true hl
      cases Nat.eq_of_beq_eq_true h2
      exact o_if_ge hX h1 hd (fun h9 => kf (Int32.not_lt.mpr h9)) (fun h9 => kt (Int32.not_le.mp h9))
    · cases hc
  · cases h
def cc_ifgt : mCc := fun pc i len x => match i, x with
  | .ifCond .gt off, [tT, tF] => decide ((pc : Int) + off = (tT : Int)) && Nat.beq tF (pc + 3) && Nat.beq len 3
  | .ifCond .le off, [tT, tF] => decide ((pc : Int) + off = (tF : Int)) && Nat.beq tT (pc + 3) && Nat.beq len 3
  | _, _ => false
def cf_ifgt : mCf := fun st => match st with
  | .int x :: r => some (0 < x, r)
  | _ => none
theorem simc_ifgt : SimC (cc_ifgt, cf_ifgt) := by
  intro X cells slots ad L st W9 pc i len tT tF c9 st' hX hd hc h kt kf
  simp only [cc_ifgt, cf_ifgt] at hc h
  split at h
  · cases h
    split at hc
    · rename_i hx
      cases hx
      simp only [Bool.and_eq_true, decide_eq_true_eq] at hc
      obtain ⟨⟨h1, h2⟩, hl⟩ := hc
      cases Nat.eq_of_beq_eq_true hl
      cases Nat.eq_of_beq_eq_true h2
      exact o_if_gt hX h1 hd kt kf
    · rename_i hx
      cases hx
      simp only [Bool.and_eq_true, decide_eq_true_eq] at hc
      obtain ⟨⟨h1, h2⟩, hl⟩ := hc
      cases Nat.eq_of_beq_eq_true hl
      cases Nat.eq_of_beq_eq_true h2
      exact o_if_le hX h1 hd (fun h9 => kf (Int32.not_lt.mpr h9)) (fun h9 => kt (Int32.not_le.mp h9))
    · cases hc
  · cases h
def cc_icmpeq : mCc := fun pc i len x => match i, x with
  | .if_icmp .eq off, [tT, tF] => decide ((pc : Int) + off = (tT : Int)) && Nat.beq tF (pc + 3) && Nat.beq len 3
  | .if_icmp .ne off, [tT, tF] => decide ((pc : Int) + off = (tF : Int)) && Nat.beq tT (pc + 3) && Nat.beq len 3
  | _, _ => false
def cf_icmpeq : mCf := fun st => match st with
  | .int y :: .int x :: r => some (x = y, r)
  | _ => none
theorem simc_icmpeq : SimC (cc_icmpeq, cf_icmpeq) := by
  intro X cells slots ad L st W9 pc i len tT tF c9 st' hX hd hc h kt kf
  simp only [cc_icmpeq, cf_icmpeq] at hc h
  split at h
  · cases h
    split at hc
    · rename_i hx
      cases hx
      simp only [Bool.and_eq_true, decide_eq_true_eq] at hc
      obtain ⟨⟨h1, h2⟩, hl⟩ := hc
      cases Nat.eq_of_beq_eq_true hl
      cases Nat.eq_of_beq_eq_true h2
      exact o_icmp_eq hX h1 hd kt kf
    · rename_i hx
      cases hx
      simp only [Bool.and_eq_true, decide_eq_true_eq] at hc
      obtain ⟨⟨h1, h2⟩, hl⟩ := hc
      cases Nat.eq_of_beq_eq_true hl
      cases Nat.eq_of_beq_eq_true h2
      exact o_icmp_ne hX h1 hd kf kt
    · cases hc
  · cases h
def cc_icmplt : mCc := fun pc i len x => match i, x with
  | .if_icmp .lt off, [tT, tF] => decide ((pc : Int) + off = (tT : Int)) && Nat.beq tF (pc + 3) && Nat.beq len 3
  | .if_icmp .ge off, [tT, tF] => decide ((pc : Int) + off = (tF : Int)) && Nat.beq tT (pc + 3) && Nat.beq len 3
  | _, _ => false
def cf_icmplt : mCf := fun st => match st with
  | .int y :: .int x :: r => some (x < y, r)
  | _ => none
theorem simc_icmplt : SimC (cc_icmplt, cf_icmplt) := by
  intro X cells slots ad L st W9 pc i len tT tF c9 st' hX hd hc h kt kf
  simp only [cc_icmplt, cf_icmplt] at hc h
  split at h
  · cases h
    split at hc
    · rename_i hx
      cases hx
      simp only [Bool.and_eq_true, decide_eq_true_eq] at hc
      obtain ⟨⟨h1, h2⟩, hl⟩ := hc
      cases Nat.eq_of_beq_eq_true hl
      cases Nat.eq_of_beq_eq_true h2
      exact o_icmp_lt hX h1 hd kt kf
    · rename_i hx
      cases hx
      simp only [Bool.and_eq_true, decide_eq_true_eq] at hc
      obtain ⟨⟨h1, h2⟩, hl⟩ := hc
      cases Nat.eq_of_beq_eq_true hl
      cases Nat.eq_of_beq_eq_true h2
      exact o_icmp_ge hX h1 hd (fun h9 => kf (Int32.not_lt.mpr h9)) (fun h9 => kt (Int32.not_le.mp h9))
    · cases hc
  · cases h
def cc_icmpgt : mCc := fun pc i len x => match i, x with
  | .if_icmp .gt off, [tT, tF] => decide ((pc : Int) + off = (tT : Int)) && Nat.beq tF (pc + 3) && Nat.beq len 3
  | .if_icmp .le off, [tT, tF] => decide ((pc : Int) + off = (tF : Int)) && Nat.beq tT (pc + 3) && Nat.beq len 3
  | _, _ => false
def cf_icmpgt : mCf := fun st => match st with
  | .int y :: .int x :: r => some (y < x, r)
  | _ => none
theorem simc_icmpgt : SimC (cc_icmpgt, cf_icmpgt) := by
  intro X cells slots ad L st W9 pc i len tT tF c9 st' hX hd hc h kt kf
  simp only [cc_icmpgt, cf_icmpgt] at hc h
  split at h
  · cases h
    split at hc
    · rename_i hx
      cases hx
      simp only [Bool.and_eq_true, decide_eq_true_eq] at hc
      obtain ⟨⟨h1, h2⟩, hl⟩ := hc
      cases Nat.eq_of_beq_eq_true hl
      cases Nat.eq_of_beq_eq_true h2
      exact o_icmp_gt hX h1 hd kt kf
    · rename_i hx
      cases hx
      simp only [Bool.and_eq_true, decide_eq_true_eq] at hc
      obtain ⟨⟨h1, h2⟩, hl⟩ := hc
      cases Nat.eq_of_beq_eq_true hl
      cases Nat.eq_of_beq_eq_true h2
      exact o_icmp_le hX h1 hd (fun h9 => kf (Int32.not_lt.mpr h9)) (fun h9 => kt (Int32.not_le.mp h9))
    · cases hc
  · cases h
def cc_ifnull : mCc := fun pc i len x => match i, x with
  | .ifnull off, [tT, tF] => decide ((pc : Int) + off = (tT : Int)) && Nat.beq tF (pc + 3) && Nat.beq len 3
  | .ifnonnull off, [tT, tF] => decide ((pc : Int) + off = (tF : Int)) && Nat.beq tT (pc + 3) && Nat.beq len 3
  | _, _ => false
def cf_ifnull : mCf := fun st => match st with
  | .ref _ :: r => some (False, r)
  | .null :: r => some (True, r)
  | _ => none
theorem simc_ifnull : SimC (cc_ifnull, cf_ifnull) := by
  intro X cells slots ad L st W9 pc i len tT tF c9 st' hX hd hc h kt kf
  simp only [cc_ifnull, cf_ifnull] at hc h
  split at hc
  · rename_i hx
    cases hx
    simp only [Bool.and_eq_true, decide_eq_true_eq] at hc
    obtain ⟨⟨h1, h2⟩, hl⟩ := hc
    cases Nat.eq_of_beq_eq_true hl
    cases Nat.eq_of_beq_eq_true h2
    split at h
    · cases h; exact o_ifnullR hX hd (kf id)
    · cases h; exact o_ifnullN hX h1 hd (kt trivial)
    · cases h
  · rename_i hx
    cases hx
    simp only [Bool.and_eq_true, decide_eq_true_eq] at hc
    obtain ⟨⟨h1, h2⟩, hl⟩ := hc
    cases Nat.eq_of_beq_eq_true hl
    cases Nat.eq_of_beq_eq_true h2
    split at h
    · cases h; exact o_ifnnR hX h1 hd (kf id)
    · cases h; exact o_ifnnN hX hd (kt trivial)
    · cases h
  · cases hc
def mCt : List (mCc × mCf) := [(cc_ifeq, cf_ifeq), (cc_iflt, cf_iflt), (cc_ifgt, cf_ifgt), (cc_icmpeq, cf_icmpeq), (cc_icmplt, cf_icmplt), (cc_icmpgt, cf_icmpgt), (cc_ifnull, cf_ifnull)]
theorem mCt_ok : ∀ q ∈ mCt, SimC q := List.forall_mem_cons.mpr ⟨simc_ifeq, List.forall_mem_cons.mpr ⟨simc_iflt, List.forall_mem_cons.mpr ⟨simc_ifgt, List.forall_mem_cons.mpr ⟨simc_icmpeq, List.forall_mem_cons.mpr ⟨simc_icmplt, List.forall_mem_cons.mpr ⟨simc_icmpgt, List.forall_mem_cons.mpr ⟨simc_ifnull, fun _ h => absurd h List.not_mem_nil⟩⟩⟩⟩⟩⟩⟩
abbrev mGf : Type := List mE → List Nat → List Value → List Value → List mE → Option (Prop × List Value × List Value × List mE)
abbrev mGc : Type := Nat → Instr → Nat → List Nat → Bool
def SimG (q : mGc × mGf) : Prop := ∀ (X : mX) (cells slots : Nat) (ad : Nat → Nat) (L st : List Value) (W9 : List mE) (pc nx : Nat) (i : Instr) (len : Nat) (x : List Nat) (c9 : Prop) (L' st' : List Value) (W' : List mE), mCx X → (∀ e ∈ mRO X, wE 0 e) → decode (mby (mkk X)) pc = .ok (i, len) → nx = pc + len → q.1 (mkk X) i len x = true → q.2 (mRO X) x L st W9 = some (c9, L', st', W') → c9 → mGo X cells slots ad L' st' W' nx → mGo X cells slots ad L st W9 pc
theorem gset_some {c9 c8 : Prop} {L L' : List Value} {q : Nat} {e : mE} {st st' : List Value} {W9 W' : List mE} (h : mset W9 q e (fun w => some (c8, L, st, w)) none = some (c9, L', st', W')) : c9 = c8 ∧ L' = L ∧ st' = st ∧ W' = W9.set q e := by
  rw [mset_eq] at h
  by_cases hi : q < W9.length
  · rw [if_pos hi] at h; cases h; exact ⟨rfl, rfl, rfl, rfl⟩
  · rw [if_neg hi] at h; cases h
def gc_idiv : mGc := fun _ i len _ => decide (i = .idiv) && Nat.beq len 1
def gf_idiv : mGf := fun _ _ L st W9 => match st with
  | .int y :: .int x :: r => some (¬ y = 0, L, .int (x / y) :: r, W9)
  | _ => none
theorem simg_idiv : SimG (gc_idiv, gf_idiv) := by
  intro X cells slots ad L st W9 pc nx i len x c9 L' st' W' hX hro hd hnx hc h hc9 kk
  subst hnx
  simp only [gc_idiv, gf_idiv] at hc h
  simp only [Bool.and_eq_true, decide_eq_true_eq] at hc
  obtain ⟨rfl, hl⟩ := hc
  cases Nat.eq_of_beq_eq_true hl
  split at h
  · cases h
    exact o_idiv hX hc9 hd kk
  · cases h
def gc_irem : mGc := fun _ i len _ => decide (i = .irem) && Nat.beq len 1
def gf_irem : mGf := fun _ _ L st W9 => match st with
  | .int y :: .int x :: r => some (¬ y = 0, L, .int (x - x / y * y) :: r, W9)
  | _ => none
theorem simg_irem : SimG (gc_irem, gf_irem) := by
  intro X cells slots ad L st W9 pc nx i len x c9 L' st' W' hX hro hd hnx hc h hc9 kk
  subst hnx
  simp only [gc_irem, gf_irem] at hc h
  simp only [Bool.and_eq_true, decide_eq_true_eq] at hc
  obtain ⟨rfl, hl⟩ := hc
  cases Nat.eq_of_beq_eq_true hl
  split at h
  · cases h
    exact o_irem hX hc9 hd kk
  · cases h
def gc_fdiv : mGc := fun _ i len _ => decide (i = .fdiv) && Nat.beq len 1
def gf_fdiv : mGf := fun _ _ L st W9 => match st with
  | .float y :: .float x :: r => some (vf_n32 (FP.fdiv x y), L, .float (FP.fdiv x y) :: r, W9)
  | _ => none
theorem simg_fdiv : SimG (gc_fdiv, gf_fdiv) := by
  intro X cells slots ad L st W9 pc nx i len x c9 L' st' W' hX hro hd hnx hc h hc9 kk
  subst hnx
  simp only [gc_fdiv, gf_fdiv] at hc h
  simp only [Bool.and_eq_true, decide_eq_true_eq] at hc
  obtain ⟨rfl, hl⟩ := hc
  cases Nat.eq_of_beq_eq_true hl
  split at h
  · cases h
    exact o_fdiv hX hc9 hd kk
  · cases h
def gc_ddiv : mGc := fun _ i len _ => decide (i = .ddiv) && Nat.beq len 1
def gf_ddiv : mGf := fun _ _ L st W9 => match st with
  | .double y :: .double x :: r => some (vf_n64 (FP.ddiv x y), L, .double (FP.ddiv x y) :: r, W9)
  | _ => none
theorem simg_ddiv : SimG (gc_ddiv, gf_ddiv) := by
  intro X cells slots ad L st W9 pc nx i len x c9 L' st' W' hX hro hd hnx hc h hc9 kk
  subst hnx
  simp only [gc_ddiv, gf_ddiv] at hc h
  simp only [Bool.and_eq_true, decide_eq_true_eq] at hc
  obtain ⟨rfl, hl⟩ := hc
  cases Nat.eq_of_beq_eq_true hl
  split at h
  · cases h
    exact o_ddiv hX hc9 hd kk
  · cases h
def gc_f2d : mGc := fun _ i len _ => decide (i = .f2d) && Nat.beq len 1
def gf_f2d : mGf := fun _ _ L st W9 => match st with
  | .float x :: r => some (vf_n64 (FP.f2d x), L, .double (FP.f2d x) :: r, W9)
  | _ => none
theorem simg_f2d : SimG (gc_f2d, gf_f2d) := by
  intro X cells slots ad L st W9 pc nx i len x c9 L' st' W' hX hro hd hnx hc h hc9 kk
  subst hnx
  simp only [gc_f2d, gf_f2d] at hc h
  simp only [Bool.and_eq_true, decide_eq_true_eq] at hc
  obtain ⟨rfl, hl⟩ := hc
  cases Nat.eq_of_beq_eq_true hl
  split at h
  · cases h
    exact o_f2d hX hc9 hd kk
  · cases h
def gc_iald : mGc := fun _ i len _ => decide (i = .iaload) && Nat.beq len 1
def gf_iald : mGf := fun RO _ L st W9 => match st with
  | .int i :: .ref q :: r => (match mget RO W9 q with
    | some (.inl (1, n, .inl f)) => some (vp_in i n, L, .int (f i.toNatClampNeg) :: r, W9)
    | _ => none)
  | _ => none
theorem simg_iald : SimG (gc_iald, gf_iald) := by
  intro X cells slots ad L st W9 pc nx i len x c9 L' st' W' hX hro hd hnx hc h hc9 kk
  subst hnx
  simp only [gc_iald, gf_iald] at hc h
  simp only [Bool.and_eq_true, decide_eq_true_eq] at hc
  obtain ⟨rfl, hl⟩ := hc
  cases Nat.eq_of_beq_eq_true hl
  split at h
  · split at h
    · rename_i hg
      cases h
      exact o_iald hX hg hc9 hd kk
    · cases h
  · cases h
def gc_lald : mGc := fun _ i len _ => decide (i = .laload) && Nat.beq len 1
def gf_lald : mGf := fun RO _ L st W9 => match st with
  | .int i :: .ref q :: r => (match mget RO W9 q with
    | some (.inl (4, n, .inr (.inl f))) => some (vp_in i n, L, .long (f i.toNatClampNeg) :: r, W9)
    | _ => none)
  | _ => none
theorem simg_lald : SimG (gc_lald, gf_lald) := by
  intro X cells slots ad L st W9 pc nx i len x c9 L' st' W' hX hro hd hnx hc h hc9 kk
  subst hnx
  simp only [gc_lald, gf_lald] at hc h
  simp only [Bool.and_eq_true, decide_eq_true_eq] at hc
  obtain ⟨rfl, hl⟩ := hc
  cases Nat.eq_of_beq_eq_true hl
  split at h
  · split at h
    · rename_i hg
      cases h
      exact o_lald hX hg hc9 hd kk
    · cases h
  · cases h
def gc_dald : mGc := fun _ i len _ => decide (i = .daload) && Nat.beq len 1
def gf_dald : mGf := fun RO _ L st W9 => match st with
  | .int i :: .ref q :: r => (match mget RO W9 q with
    | some (.inl (5, n, .inr (.inr (.inr (.inl f))))) => some (vp_in i n, L, .double (f i.toNatClampNeg) :: r, W9)
    | _ => none)
  | _ => none
theorem simg_dald : SimG (gc_dald, gf_dald) := by
  intro X cells slots ad L st W9 pc nx i len x c9 L' st' W' hX hro hd hnx hc h hc9 kk
  subst hnx
  simp only [gc_dald, gf_dald] at hc h
  simp only [Bool.and_eq_true, decide_eq_true_eq] at hc
  obtain ⟨rfl, hl⟩ := hc
  cases Nat.eq_of_beq_eq_true hl
  split at h
  · split at h
    · rename_i hg
      cases h
      exact o_dald hX hg hc9 hd kk
    · cases h
  · cases h
def gc_aald : mGc := fun _ i len _ => decide (i = .aaload) && Nat.beq len 1
def gf_aald : mGf := fun RO _ L st W9 => match st with
  | .int i :: .ref q :: r => (match mget RO W9 q with
    | some (.inl (3, n, .inr (.inr (.inr (.inr f))))) => some (vp_in i n, L, va_rf (f i.toNatClampNeg) :: r, W9)
    | _ => none)
  | _ => none
theorem simg_aald : SimG (gc_aald, gf_aald) := by
  intro X cells slots ad L st W9 pc nx i len x c9 L' st' W' hX hro hd hnx hc h hc9 kk
  subst hnx
  simp only [gc_aald, gf_aald] at hc h
  simp only [Bool.and_eq_true, decide_eq_true_eq] at hc
  obtain ⟨rfl, hl⟩ := hc
  cases Nat.eq_of_beq_eq_true hl
  split at h
  · split at h
    · rename_i hg
      cases h
      exact o_aald hX hro hg hc9 hd kk
    · cases h
  · cases h
def gc_bald : mGc := fun _ i len _ => decide (i = .baload) && Nat.beq len 1
def gf_bald : mGf := fun RO _ L st W9 => match st with
  | .int i :: .ref q :: r => (match mget RO W9 q with
    | some (.inl (0, n, .inl f)) => some (vp_in i n, L, .int (f i.toNatClampNeg) :: r, W9)
    | some (.inl (2, n, .inl f)) => some (vp_in i n, L, .int (f i.toNatClampNeg) :: r, W9)
    | _ => none)
  | _ => none
theorem simg_bald : SimG (gc_bald, gf_bald) := by
  intro X cells slots ad L st W9 pc nx i len x c9 L' st' W' hX hro hd hnx hc h hc9 kk
  subst hnx
  simp only [gc_bald, gf_bald] at hc h
  simp only [Bool.and_eq_true, decide_eq_true_eq] at hc
  obtain ⟨rfl, hl⟩ := hc
  cases Nat.eq_of_beq_eq_true hl
  split at h
  · split at h
    · rename_i hg
      cases h
      exact o_bald hX hg hc9 hd kk
    · rename_i hg
      cases h
      exact o_zald hX hg hc9 hd kk
    · cases h
  · cases h
def gc_iast : mGc := fun _ i len _ => decide (i = .iastore) && Nat.beq len 1
def gf_iast : mGf := fun _ _ L st W9 => match st with
  | .int x :: .int i :: .ref q :: r => bif Nat.blt q 1000000 then (match W9[q]? with
    | some (.inl (1, n, .inl f)) => mset W9 q (.inl (1, n, .inl (upd f i.toNatClampNeg x))) (fun w => some (vp_in i n, L, r, w)) none
    | _ => none) else none
  | _ => none
theorem simg_iast : SimG (gc_iast, gf_iast) := by
  intro X cells slots ad L st W9 pc nx i len x c9 L' st' W' hX hro hd hnx hc h hc9 kk
  subst hnx
  simp only [gc_iast, gf_iast] at hc h
  simp only [Bool.and_eq_true, decide_eq_true_eq] at hc
  obtain ⟨rfl, hl⟩ := hc
  cases Nat.eq_of_beq_eq_true hl
  split at h
  · rename_i x i q r
    cases hq : Nat.blt q 1000000 with
    | true =>
      rw [hq] at h
      simp only [cond_true] at h
      split at h
      · rename_i hg
        obtain ⟨rfl, rfl, rfl, rfl⟩ := gset_some h
        exact o_iast hX hq hg hc9 hd kk
      · cases h
    | false => rw [hq] at h; cases h
  · cases h
def gc_bast : mGc := fun _ i len _ => decide (i = .bastore) && Nat.beq len 1
def gf_bast : mGf := fun _ _ L st W9 => match st with
  | .int x :: .int i :: .ref q :: r => bif Nat.blt q 1000000 then (match W9[q]? with
    | some (.inl (0, n, .inl f)) => mset W9 q (.inl (0, n, .inl (upd f i.toNatClampNeg (vp_nar .byte x)))) (fun w => some (vp_in i n, L, r, w)) none
    | some (.inl (2, n, .inl f)) => mset W9 q (.inl (2, n, .inl (upd f i.toNatClampNeg (vp_nar .boolean x)))) (fun w => some (vp_in i n, L, r, w)) none
    | _ => none) else none
  | _ => none
theorem simg_bast : SimG (gc_bast, gf_bast) := by
  intro X cells slots ad L st W9 pc nx i len x c9 L' st' W' hX hro hd hnx hc h hc9 kk
  subst hnx
  simp only [gc_bast, gf_bast] at hc h
  simp only [Bool.and_eq_true, decide_eq_true_eq] at hc
  obtain ⟨rfl, hl⟩ := hc
  cases Nat.eq_of_beq_eq_true hl
  split at h
  · rename_i x i q r
    cases hq : Nat.blt q 1000000 with
    | true =>
      rw [hq] at h
      simp only [cond_true] at h
      split at h
      · rename_i hg
        obtain ⟨rfl, rfl, rfl, rfl⟩ := gset_some h
        exact o_bast hX hq hg hc9 hd kk
      · rename_i hg
        obtain ⟨rfl, rfl, rfl, rfl⟩ := gset_some h
        exact o_zast hX hq hg hc9 hd kk
      · cases h
    | false => rw [hq] at h; cases h
  · cases h
def gc_last : mGc := fun _ i len _ => decide (i = .lastore) && Nat.beq len 1
def gf_last : mGf := fun _ _ L st W9 => match st with
  | .long x :: .int i :: .ref q :: r => bif Nat.blt q 1000000 then (match W9[q]? with
    | some (.inl (4, n, .inr (.inl f))) => mset W9 q (.inl (4, n, .inr (.inl (vp_updL f i.toNatClampNeg x)))) (fun w => some (vp_in i n, L, r, w)) none
    | _ => none) else none
  | _ => none
theorem simg_last : SimG (gc_last, gf_last) := by
  intro X cells slots ad L st W9 pc nx i len x c9 L' st' W' hX hro hd hnx hc h hc9 kk
  subst hnx
  simp only [gc_last, gf_last] at hc h
  simp only [Bool.and_eq_true, decide_eq_true_eq] at hc
  obtain ⟨rfl, hl⟩ := hc
  cases Nat.eq_of_beq_eq_true hl
  split at h
  · rename_i x i q r
    cases hq : Nat.blt q 1000000 with
    | true =>
      rw [hq] at h
      simp only [cond_true] at h
      split at h
      · rename_i hg
        obtain ⟨rfl, rfl, rfl, rfl⟩ := gset_some h
        exact o_last hX hq hg hc9 hd kk
      · cases h
    | false => rw [hq] at h; cases h
  · cases h
def gc_dast : mGc := fun _ i len _ => decide (i = .dastore) && Nat.beq len 1
def gf_dast : mGf := fun _ _ L st W9 => match st with
  | .double x :: .int i :: .ref q :: r => bif Nat.blt q 1000000 then (match W9[q]? with
    | some (.inl (5, n, .inr (.inr (.inr (.inl f))))) => mset W9 q (.inl (5, n, .inr (.inr (.inr (.inl (vf_upd f i.toNatClampNeg x)))))) (fun w => some (vp_in i n, L, r, w)) none
    | _ => none) else none
  | _ => none
theorem simg_dast : SimG (gc_dast, gf_dast) := by
  intro X cells slots ad L st W9 pc nx i len x c9 L' st' W' hX hro hd hnx hc h hc9 kk
  subst hnx
  simp only [gc_dast, gf_dast] at hc h
  simp only [Bool.and_eq_true, decide_eq_true_eq] at hc
  obtain ⟨rfl, hl⟩ := hc
  cases Nat.eq_of_beq_eq_true hl
  split at h
  · rename_i x i q r
    cases hq : Nat.blt q 1000000 with
    | true =>
      rw [hq] at h
      simp only [cond_true] at h
      split at h
      · rename_i hg
        obtain ⟨rfl, rfl, rfl, rfl⟩ := gset_some h
        exact o_dast hX hq hg hc9 hd kk
      · cases h
    | false => rw [hq] at h; cases h
  · cases h
def gc_aast : mGc := fun _ i len _ => decide (i = .aastore) && Nat.beq len 1
def gf_aast : mGf := fun _ _ L st W9 => match st with
  | .ref u :: .int i :: .ref q :: r => bif Nat.blt q 1000000 && Nat.blt u 1000000 then (match W9[q]?, W9[u]? with
    | some (.inl (3, n, .inr (.inr (.inr (.inr f))))), some (.inr (7, _)) => mset W9 q (.inl (3, n, .inr (.inr (.inr (.inr (va_up f i.toNatClampNeg (some u))))))) (fun w => some (vp_in i n, L, r, w)) none
    | _, _ => none) else none
  | _ => none
theorem simg_aast : SimG (gc_aast, gf_aast) := by
  intro X cells slots ad L st W9 pc nx i len x c9 L' st' W' hX hro hd hnx hc h hc9 kk
  subst hnx
  simp only [gc_aast, gf_aast] at hc h
  simp only [Bool.and_eq_true, decide_eq_true_eq] at hc
  obtain ⟨rfl, hl⟩ := hc
  cases Nat.eq_of_beq_eq_true hl
  split at h
  · rename_i u i q r
    cases hq : (Nat.blt q 1000000 && Nat.blt u 1000000) with
    | true =>
      rw [hq] at h
      simp only [cond_true] at h
      simp only [Bool.and_eq_true] at hq
      split at h
      · rename_i n f vs hg hgv
        obtain ⟨rfl, rfl, rfl, rfl⟩ := gset_some h
        exact o_aast hX hq.1 hq.2 hg hgv hc9 hd kk
      · cases h
    | false => rw [hq] at h; cases h
  · cases h
def gc_copyi : mGc := fun k i len x => match i, x with
  | .invokestatic index, [n1, n2, n3, n4] => wck n1 (.methodLink (mnm k).cls index arraycopyName) && wck n2 (.native arraycopyName) && wck n3 (.static arraycopyName) && wck n4 (.initialized "java/lang/System") && Nat.beq len 3
  | _, _ => false
def gf_copyi : mGf := fun RO _ L st W9 => match st with
  | .int n :: .int dp :: .ref q1 :: .int sp :: .ref q0 :: r => bif Nat.blt q0 1000000 && Nat.blt q1 1000000 && mcs r then (match mget RO W9 q0, W9[q1]? with
    | some (.inl (1, n0, .inl f)), some (.inl (1, n1, .inl g)) => mset W9 q1 (.inl (1, n1, .inl (va_cpy f g sp.toNatClampNeg dp.toNatClampNeg n.toNatClampNeg))) (fun w => some ((¬ sp < 0 ∧ ¬ dp < 0 ∧ ¬ n < 0 ∧ sp.toNatClampNeg + n.toNatClampNeg ≤ n0 ∧ dp.toNatClampNeg + n.toNatClampNeg ≤ n1), L, r, w)) none
    | some (.inl (0, n0, .inl f)), some (.inl (0, n1, .inl g)) => mset W9 q1 (.inl (0, n1, .inl (va_cpy f g sp.toNatClampNeg dp.toNatClampNeg n.toNatClampNeg))) (fun w => some ((¬ sp < 0 ∧ ¬ dp < 0 ∧ ¬ n < 0 ∧ sp.toNatClampNeg + n.toNatClampNeg ≤ n0 ∧ dp.toNatClampNeg + n.toNatClampNeg ≤ n1 ∧ ∀ i, i < n.toNatClampNeg → fits .byte (.int (f (sp.toNatClampNeg + i))) = true), L, r, w)) none
    | _, _ => none) else none
  | _ => none
theorem simg_copyi : SimG (gc_copyi, gf_copyi) := by
  intro X cells slots ad L st W9 pc nx i len x c9 L' st' W' hX hro hd hnx hc h hc9 kk
  subst hnx
  simp only [gc_copyi, gf_copyi] at hc h
  split at h
  · rename_i n dp q1 sp q0 r
    cases hq : (Nat.blt q0 1000000 && Nat.blt q1 1000000 && mcs r) with
    | true =>
      rw [hq] at h
      simp only [cond_true] at h
      simp only [Bool.and_eq_true] at hq
      split at hc
      · simp only [Bool.and_eq_true] at hc
        obtain ⟨⟨⟨⟨h1, h2⟩, h3⟩, h4⟩, hl⟩ := hc
        cases Nat.eq_of_beq_eq_true hl
        split at h
        · rename_i n0 f n1 g hg0 hg1
          obtain ⟨rfl, rfl, rfl, rfl⟩ := gset_some h
          obtain ⟨g1, g2, g3, g4, g5⟩ := hc9
          exact o_copyi hX (ty := .int) (wck_1 h1) (wck_2 h1) (wck_1 h2) (wck_2 h2) (wck_1 h3) (wck_2 h3) (wck_1 h4) (wck_2 h4) hq.1.2 hg0 hg1 (fun _ => rfl) rfl hq.1.1 g1 g2 g3 g4 g5 (fun _ _ => rfl) hq.2 hd kk
        · rename_i n0 f n1 g hg0 hg1
          obtain ⟨rfl, rfl, rfl, rfl⟩ := gset_some h
          obtain ⟨g1, g2, g3, g4, g5, g6⟩ := hc9
          exact o_copyi hX (ty := .byte) (wck_1 h1) (wck_2 h1) (wck_1 h2) (wck_2 h2) (wck_1 h3) (wck_2 h3) (wck_1 h4) (wck_2 h4) hq.1.2 hg0 hg1 (fun _ => rfl) rfl hq.1.1 g1 g2 g3 g4 g5 g6 hq.2 hd kk
        · cases h
      · cases hc
    | false => rw [hq] at h; cases h
  · cases h
def mGt : List (mGc × mGf) := [(gc_idiv, gf_idiv), (gc_irem, gf_irem), (gc_fdiv, gf_fdiv), (gc_ddiv, gf_ddiv), (gc_f2d, gf_f2d), (gc_iald, gf_iald), (gc_lald, gf_lald), (gc_dald, gf_dald), (gc_aald, gf_aald), (gc_bald, gf_bald), (gc_iast, gf_iast), (gc_bast, gf_bast), (gc_last, gf_last), (gc_dast, gf_dast), (gc_aast, gf_aast), (gc_copyi, gf_copyi)]
theorem mGt_ok : ∀ q ∈ mGt, SimG q := List.forall_mem_cons.mpr ⟨simg_idiv, List.forall_mem_cons.mpr ⟨simg_irem, List.forall_mem_cons.mpr ⟨simg_fdiv, List.forall_mem_cons.mpr ⟨simg_ddiv, List.forall_mem_cons.mpr ⟨simg_f2d, List.forall_mem_cons.mpr ⟨simg_iald, List.forall_mem_cons.mpr ⟨simg_lald, List.forall_mem_cons.mpr ⟨simg_dald, List.forall_mem_cons.mpr ⟨simg_aald, List.forall_mem_cons.mpr ⟨simg_bald, List.forall_mem_cons.mpr ⟨simg_iast, List.forall_mem_cons.mpr ⟨simg_bast, List.forall_mem_cons.mpr ⟨simg_last, List.forall_mem_cons.mpr ⟨simg_dast, List.forall_mem_cons.mpr ⟨simg_aast, List.forall_mem_cons.mpr ⟨simg_copyi, fun _ h => absurd h List.not_mem_nil⟩⟩⟩⟩⟩⟩⟩⟩⟩⟩⟩⟩⟩⟩⟩⟩
end
