section
-- ===== PART A: goes FIRST, ahead of the names: the tables' words, and 'selects' of the private methods out of them =====
/-- a private method of a class that the tables say can be made, by its rows of tables_1 -/
def lw_okq (q : MethodName × Nat) : Prop := (q.1.cls ≠ "java/lang/invoke/MethodHandle" ∧ q.1.cls ≠ "java/lang/invoke/VarHandle") ∧ Cond.instantiable q.1.cls q.2 ∈ tables_1 ∧ Cond.privateMethod q.1 ∈ tables_1 ∧ Cond.instanceMethod q.1 ∈ tables_1
theorem lw_p0 : lw_okq (⟨"FestivalFields$Escape", "startAnew", "()I"⟩, 12) := ⟨⟨by decide +kernel, by decide +kernel⟩, List.mem_of_getElem? (i := 97) (by decide +kernel), List.mem_of_getElem? (i := 348) (by decide +kernel), List.mem_of_getElem? (i := 349) (by decide +kernel)⟩
theorem lw_p1 : lw_okq (⟨"FestivalFields$Escape", "openGates", "(I)V"⟩, 12) := ⟨⟨by decide +kernel, by decide +kernel⟩, List.mem_of_getElem? (i := 97) (by decide +kernel), List.mem_of_getElem? (i := 353) (by decide +kernel), List.mem_of_getElem? (i := 354) (by decide +kernel)⟩
theorem lw_p2 : lw_okq (⟨"FestivalFields$Escape", "findStart", "()I"⟩, 12) := ⟨⟨by decide +kernel, by decide +kernel⟩, List.mem_of_getElem? (i := 97) (by decide +kernel), List.mem_of_getElem? (i := 361) (by decide +kernel), List.mem_of_getElem? (i := 362) (by decide +kernel)⟩
theorem lw_p3 : lw_okq (⟨"FestivalFields$Escape", "reachGates", "()I"⟩, 12) := ⟨⟨by decide +kernel, by decide +kernel⟩, List.mem_of_getElem? (i := 97) (by decide +kernel), List.mem_of_getElem? (i := 365) (by decide +kernel), List.mem_of_getElem? (i := 366) (by decide +kernel)⟩
theorem lw_p4 : lw_okq (⟨"FestivalFields$Escape", "reach", "(IIIII)V"⟩, 12) := ⟨⟨by decide +kernel, by decide +kernel⟩, List.mem_of_getElem? (i := 97) (by decide +kernel), List.mem_of_getElem? (i := 369) (by decide +kernel), List.mem_of_getElem? (i := 370) (by decide +kernel)⟩
theorem lw_p5 : lw_okq (⟨"FestivalFields$Escape", "latestNew", "()I"⟩, 12) := ⟨⟨by decide +kernel, by decide +kernel⟩, List.mem_of_getElem? (i := 97) (by decide +kernel), List.mem_of_getElem? (i := 373) (by decide +kernel), List.mem_of_getElem? (i := 374) (by decide +kernel)⟩
theorem lw_p6 : lw_okq (⟨"FestivalFields$Escape", "reachByWaitingLess", "(I)V"⟩, 12) := ⟨⟨by decide +kernel, by decide +kernel⟩, List.mem_of_getElem? (i := 97) (by decide +kernel), List.mem_of_getElem? (i := 377) (by decide +kernel), List.mem_of_getElem? (i := 378) (by decide +kernel)⟩
theorem lw_p7 : lw_okq (⟨"FestivalFields$Escape", "reachByArc", "(III)V"⟩, 12) := ⟨⟨by decide +kernel, by decide +kernel⟩, List.mem_of_getElem? (i := 97) (by decide +kernel), List.mem_of_getElem? (i := 384) (by decide +kernel), List.mem_of_getElem? (i := 385) (by decide +kernel)⟩
theorem lw_p8 : lw_okq (⟨"FestivalFields$Escape", "goesOnAt", "(II)I"⟩, 12) := ⟨⟨by decide +kernel, by decide +kernel⟩, List.mem_of_getElem? (i := 97) (by decide +kernel), List.mem_of_getElem? (i := 388) (by decide +kernel), List.mem_of_getElem? (i := 389) (by decide +kernel)⟩
theorem lw_p9 : lw_okq (⟨"FestivalFields$Escape", "reachByUndoing", "(III)V"⟩, 12) := ⟨⟨by decide +kernel, by decide +kernel⟩, List.mem_of_getElem? (i := 97) (by decide +kernel), List.mem_of_getElem? (i := 392) (by decide +kernel), List.mem_of_getElem? (i := 393) (by decide +kernel)⟩
theorem lw_p10 : lw_okq (⟨"FestivalFields$Escape", "sendFrom", "(I)I"⟩, 12) := ⟨⟨by decide +kernel, by decide +kernel⟩, List.mem_of_getElem? (i := 97) (by decide +kernel), List.mem_of_getElem? (i := 400) (by decide +kernel), List.mem_of_getElem? (i := 401) (by decide +kernel)⟩
theorem lw_p11 : lw_okq (⟨"FestivalFields$Escape", "letWait", "(IIII)V"⟩, 12) := ⟨⟨by decide +kernel, by decide +kernel⟩, List.mem_of_getElem? (i := 97) (by decide +kernel), List.mem_of_getElem? (i := 404) (by decide +kernel), List.mem_of_getElem? (i := 405) (by decide +kernel)⟩
theorem lw_p12 : lw_okq (⟨"FestivalFields$Escape", "takeArc", "(III)I"⟩, 12) := ⟨⟨by decide +kernel, by decide +kernel⟩, List.mem_of_getElem? (i := 97) (by decide +kernel), List.mem_of_getElem? (i := 408) (by decide +kernel), List.mem_of_getElem? (i := 409) (by decide +kernel)⟩
theorem lw_p13 : lw_okq (⟨"FestivalFields$Escape", "undoArc", "(III)I"⟩, 12) := ⟨⟨by decide +kernel, by decide +kernel⟩, List.mem_of_getElem? (i := 97) (by decide +kernel), List.mem_of_getElem? (i := 412) (by decide +kernel), List.mem_of_getElem? (i := 413) (by decide +kernel)⟩
theorem lw_p14 : lw_okq (⟨"FestivalFields$Programme", "tryShifts", "(III)V"⟩, 10) := ⟨⟨by decide +kernel, by decide +kernel⟩, List.mem_of_getElem? (i := 192) (by decide +kernel), List.mem_of_getElem? (i := 435) (by decide +kernel), List.mem_of_getElem? (i := 436) (by decide +kernel)⟩
theorem lw_p15 : lw_okq (⟨"FestivalFields$Programme", "addedOver", "(I)I"⟩, 10) := ⟨⟨by decide +kernel, by decide +kernel⟩, List.mem_of_getElem? (i := 192) (by decide +kernel), List.mem_of_getElem? (i := 442) (by decide +kernel), List.mem_of_getElem? (i := 443) (by decide +kernel)⟩
def lw_privs_1 : List (MethodName × Nat) := [(⟨"FestivalFields$Escape", "startAnew", "()I"⟩, 12), (⟨"FestivalFields$Escape", "openGates", "(I)V"⟩, 12), (⟨"FestivalFields$Escape", "findStart", "()I"⟩, 12), (⟨"FestivalFields$Escape", "reachGates", "()I"⟩, 12), (⟨"FestivalFields$Escape", "reach", "(IIIII)V"⟩, 12), (⟨"FestivalFields$Escape", "latestNew", "()I"⟩, 12), (⟨"FestivalFields$Escape", "reachByWaitingLess", "(I)V"⟩, 12), (⟨"FestivalFields$Escape", "reachByArc", "(III)V"⟩, 12), (⟨"FestivalFields$Escape", "goesOnAt", "(II)I"⟩, 12), (⟨"FestivalFields$Escape", "reachByUndoing", "(III)V"⟩, 12), (⟨"FestivalFields$Escape", "sendFrom", "(I)I"⟩, 12), (⟨"FestivalFields$Escape", "letWait", "(IIII)V"⟩, 12), (⟨"FestivalFields$Escape", "takeArc", "(III)I"⟩, 12), (⟨"FestivalFields$Escape", "undoArc", "(III)I"⟩, 12), (⟨"FestivalFields$Programme", "tryShifts", "(III)V"⟩, 10), (⟨"FestivalFields$Programme", "addedOver", "(I)I"⟩, 10)]
theorem lw_r1 : ∀ q ∈ lw_privs_1, lw_okq q := List.forall_mem_cons.mpr ⟨lw_p0, List.forall_mem_cons.mpr ⟨lw_p1, List.forall_mem_cons.mpr ⟨lw_p2, List.forall_mem_cons.mpr ⟨lw_p3, List.forall_mem_cons.mpr ⟨lw_p4, List.forall_mem_cons.mpr ⟨lw_p5, List.forall_mem_cons.mpr ⟨lw_p6, List.forall_mem_cons.mpr ⟨lw_p7, List.forall_mem_cons.mpr ⟨lw_p8, List.forall_mem_cons.mpr ⟨lw_p9, List.forall_mem_cons.mpr ⟨lw_p10, List.forall_mem_cons.mpr ⟨lw_p11, List.forall_mem_cons.mpr ⟨lw_p12, List.forall_mem_cons.mpr ⟨lw_p13, List.forall_mem_cons.mpr ⟨lw_p14, List.forall_mem_cons.mpr ⟨lw_p15, fun _ h => absurd h List.not_mem_nil⟩⟩⟩⟩⟩⟩⟩⟩⟩⟩⟩⟩⟩⟩⟩⟩
theorem lw_p16 : lw_okq (⟨"FestivalFields$Programme", "sentBefore", "(II)I"⟩, 10) := ⟨⟨by decide +kernel, by decide +kernel⟩, List.mem_of_getElem? (i := 192) (by decide +kernel), List.mem_of_getElem? (i := 446) (by decide +kernel), List.mem_of_getElem? (i := 447) (by decide +kernel)⟩
theorem lw_p17 : lw_okq (⟨"FestivalFields", "holds", "(I)Z"⟩, 11) := ⟨⟨by decide +kernel, by decide +kernel⟩, List.mem_of_getElem? (i := 25) (by decide +kernel), List.mem_of_getElem? (i := 479) (by decide +kernel), List.mem_of_getElem? (i := 480) (by decide +kernel)⟩
theorem lw_p18 : lw_okq (⟨"FestivalFields", "isQuiet", "(III)Z"⟩, 11) := ⟨⟨by decide +kernel, by decide +kernel⟩, List.mem_of_getElem? (i := 25) (by decide +kernel), List.mem_of_getElem? (i := 490) (by decide +kernel), List.mem_of_getElem? (i := 491) (by decide +kernel)⟩
theorem lw_p19 : lw_okq (⟨"java/lang/Throwable", "fillInStackTrace", "(I)Ljava/lang/Throwable;"⟩, 6) := ⟨⟨by decide +kernel, by decide +kernel⟩, List.mem_of_getElem? (i := 555) (by decide +kernel), List.mem_of_getElem? (i := 553) (by decide +kernel), List.mem_of_getElem? (i := 554) (by decide +kernel)⟩
theorem lw_p20 : lw_okq (⟨"FestivalFields$Meadow", "nearestCorner", "(II)I"⟩, 4) := ⟨⟨by decide +kernel, by decide +kernel⟩, List.mem_of_getElem? (i := 65) (by decide +kernel), List.mem_of_getElem? (i := 637) (by decide +kernel), List.mem_of_getElem? (i := 638) (by decide +kernel)⟩
theorem lw_p21 : lw_okq (⟨"FestivalFields$Meadow", "stepsFromGate", "(II)I"⟩, 4) := ⟨⟨by decide +kernel, by decide +kernel⟩, List.mem_of_getElem? (i := 65) (by decide +kernel), List.mem_of_getElem? (i := 642) (by decide +kernel), List.mem_of_getElem? (i := 643) (by decide +kernel)⟩
theorem lw_p22 : lw_okq (⟨"FestivalFields$Meadow", "isFree", "(IIII)Z"⟩, 4) := ⟨⟨by decide +kernel, by decide +kernel⟩, List.mem_of_getElem? (i := 65) (by decide +kernel), List.mem_of_getElem? (i := 649) (by decide +kernel), List.mem_of_getElem? (i := 650) (by decide +kernel)⟩
theorem lw_p23 : lw_okq (⟨"FestivalFields$Ground", "noteChange", "()V"⟩, 13) := ⟨⟨by decide +kernel, by decide +kernel⟩, List.mem_of_getElem? (i := 91) (by decide +kernel), List.mem_of_getElem? (i := 682) (by decide +kernel), List.mem_of_getElem? (i := 683) (by decide +kernel)⟩
theorem lw_p24 : lw_okq (⟨"FestivalFields$Ground", "addArc", "(IIIII)V"⟩, 13) := ⟨⟨by decide +kernel, by decide +kernel⟩, List.mem_of_getElem? (i := 91) (by decide +kernel), List.mem_of_getElem? (i := 719) (by decide +kernel), List.mem_of_getElem? (i := 720) (by decide +kernel)⟩
theorem lw_p25 : lw_okq (⟨"FestivalFields$GateBook", "putInOrder", "(I)V"⟩, 6) := ⟨⟨by decide +kernel, by decide +kernel⟩, List.mem_of_getElem? (i := 232) (by decide +kernel), List.mem_of_getElem? (i := 760) (by decide +kernel), List.mem_of_getElem? (i := 761) (by decide +kernel)⟩
theorem lw_p26 : lw_okq (⟨"FestivalFields$GateBook", "isBehind", "(II)Z"⟩, 6) := ⟨⟨by decide +kernel, by decide +kernel⟩, List.mem_of_getElem? (i := 232) (by decide +kernel), List.mem_of_getElem? (i := 764) (by decide +kernel), List.mem_of_getElem? (i := 765) (by decide +kernel)⟩
theorem lw_p27 : lw_okq (⟨"FestivalFields$Reader", "readTerm", "(LFestivalFields$Terms;)V"⟩, 3) := ⟨⟨by decide +kernel, by decide +kernel⟩, List.mem_of_getElem? (i := 49) (by decide +kernel), List.mem_of_getElem? (i := 797) (by decide +kernel), List.mem_of_getElem? (i := 798) (by decide +kernel)⟩
theorem lw_p28 : lw_okq (⟨"FestivalFields$Reader", "skipBlanks", "()V"⟩, 3) := ⟨⟨by decide +kernel, by decide +kernel⟩, List.mem_of_getElem? (i := 49) (by decide +kernel), List.mem_of_getElem? (i := 801) (by decide +kernel), List.mem_of_getElem? (i := 802) (by decide +kernel)⟩
theorem lw_p29 : lw_okq (⟨"FestivalFields$Reader", "kindHere", "()I"⟩, 3) := ⟨⟨by decide +kernel, by decide +kernel⟩, List.mem_of_getElem? (i := 49) (by decide +kernel), List.mem_of_getElem? (i := 809) (by decide +kernel), List.mem_of_getElem? (i := 810) (by decide +kernel)⟩
theorem lw_p30 : lw_okq (⟨"FestivalFields$Reader", "isWordHere", "(Ljava/lang/String;)Z"⟩, 3) := ⟨⟨by decide +kernel, by decide +kernel⟩, List.mem_of_getElem? (i := 49) (by decide +kernel), List.mem_of_getElem? (i := 814) (by decide +kernel), List.mem_of_getElem? (i := 815) (by decide +kernel)⟩
theorem lw_p31 : lw_okq (⟨"FestivalFields$Reader", "skipWord", "()V"⟩, 3) := ⟨⟨by decide +kernel, by decide +kernel⟩, List.mem_of_getElem? (i := 49) (by decide +kernel), List.mem_of_getElem? (i := 873) (by decide +kernel), List.mem_of_getElem? (i := 874) (by decide +kernel)⟩
def lw_privs_2 : List (MethodName × Nat) := [(⟨"FestivalFields$Programme", "sentBefore", "(II)I"⟩, 10), (⟨"FestivalFields", "holds", "(I)Z"⟩, 11), (⟨"FestivalFields", "isQuiet", "(III)Z"⟩, 11), (⟨"java/lang/Throwable", "fillInStackTrace", "(I)Ljava/lang/Throwable;"⟩, 6), (⟨"FestivalFields$Meadow", "nearestCorner", "(II)I"⟩, 4), (⟨"FestivalFields$Meadow", "stepsFromGate", "(II)I"⟩, 4), (⟨"FestivalFields$Meadow", "isFree", "(IIII)Z"⟩, 4), (⟨"FestivalFields$Ground", "noteChange", "()V"⟩, 13), (⟨"FestivalFields$Ground", "addArc", "(IIIII)V"⟩, 13), (⟨"FestivalFields$GateBook", "putInOrder", "(I)V"⟩, 6), (⟨"FestivalFields$GateBook", "isBehind", "(II)Z"⟩, 6), (⟨"FestivalFields$Reader", "readTerm", "(LFestivalFields$Terms;)V"⟩, 3), (⟨"FestivalFields$Reader", "skipBlanks", "()V"⟩, 3), (⟨"FestivalFields$Reader", "kindHere", "()I"⟩, 3), (⟨"FestivalFields$Reader", "isWordHere", "(Ljava/lang/String;)Z"⟩, 3), (⟨"FestivalFields$Reader", "skipWord", "()V"⟩, 3)]
theorem lw_r2 : ∀ q ∈ lw_privs_2, lw_okq q := List.forall_mem_cons.mpr ⟨lw_p16, List.forall_mem_cons.mpr ⟨lw_p17, List.forall_mem_cons.mpr ⟨lw_p18, List.forall_mem_cons.mpr ⟨lw_p19, List.forall_mem_cons.mpr ⟨lw_p20, List.forall_mem_cons.mpr ⟨lw_p21, List.forall_mem_cons.mpr ⟨lw_p22, List.forall_mem_cons.mpr ⟨lw_p23, List.forall_mem_cons.mpr ⟨lw_p24, List.forall_mem_cons.mpr ⟨lw_p25, List.forall_mem_cons.mpr ⟨lw_p26, List.forall_mem_cons.mpr ⟨lw_p27, List.forall_mem_cons.mpr ⟨lw_p28, List.forall_mem_cons.mpr ⟨lw_p29, List.forall_mem_cons.mpr ⟨lw_p30, List.forall_mem_cons.mpr ⟨lw_p31, fun _ h => absurd h List.not_mem_nil⟩⟩⟩⟩⟩⟩⟩⟩⟩⟩⟩⟩⟩⟩⟩⟩
theorem lw_p32 : lw_okq (⟨"FestivalFields$Reader", "readNumber", "(II)I"⟩, 3) := ⟨⟨by decide +kernel, by decide +kernel⟩, List.mem_of_getElem? (i := 49) (by decide +kernel), List.mem_of_getElem? (i := 881) (by decide +kernel), List.mem_of_getElem? (i := 882) (by decide +kernel)⟩
theorem lw_p33 : lw_okq (⟨"FestivalFields$Reader", "readWord", "(Ljava/lang/String;)V"⟩, 3) := ⟨⟨by decide +kernel, by decide +kernel⟩, List.mem_of_getElem? (i := 49) (by decide +kernel), List.mem_of_getElem? (i := 889) (by decide +kernel), List.mem_of_getElem? (i := 890) (by decide +kernel)⟩
theorem lw_p34 : lw_okq (⟨"FestivalFieldsModel", "throwsIf", "(ZI)Z"⟩, 47) := ⟨⟨by decide +kernel, by decide +kernel⟩, List.mem_of_getElem? (i := 903) (by decide +kernel), List.mem_of_getElem? (i := 1061) (by decide +kernel), List.mem_of_getElem? (i := 1062) (by decide +kernel)⟩
theorem lw_p35 : lw_okq (⟨"FestivalFieldsModel", "isFree", "(III)Z"⟩, 47) := ⟨⟨by decide +kernel, by decide +kernel⟩, List.mem_of_getElem? (i := 903) (by decide +kernel), List.mem_of_getElem? (i := 1074) (by decide +kernel), List.mem_of_getElem? (i := 1075) (by decide +kernel)⟩
theorem lw_p36 : lw_okq (⟨"FestivalFieldsModel", "noPlace", "(I)Z"⟩, 47) := ⟨⟨by decide +kernel, by decide +kernel⟩, List.mem_of_getElem? (i := 903) (by decide +kernel), List.mem_of_getElem? (i := 1094) (by decide +kernel), List.mem_of_getElem? (i := 1095) (by decide +kernel)⟩
theorem lw_p37 : lw_okq (⟨"FestivalFieldsModel", "adds", "(IIIII)V"⟩, 47) := ⟨⟨by decide +kernel, by decide +kernel⟩, List.mem_of_getElem? (i := 903) (by decide +kernel), List.mem_of_getElem? (i := 1106) (by decide +kernel), List.mem_of_getElem? (i := 1107) (by decide +kernel)⟩
theorem lw_p38 : lw_okq (⟨"FestivalFieldsModel", "emptied", "(I)I"⟩, 47) := ⟨⟨by decide +kernel, by decide +kernel⟩, List.mem_of_getElem? (i := 903) (by decide +kernel), List.mem_of_getElem? (i := 1114) (by decide +kernel), List.mem_of_getElem? (i := 1115) (by decide +kernel)⟩
theorem lw_p39 : lw_okq (⟨"FestivalFieldsModel", "more", "(II)I"⟩, 47) := ⟨⟨by decide +kernel, by decide +kernel⟩, List.mem_of_getElem? (i := 903) (by decide +kernel), List.mem_of_getElem? (i := 1118) (by decide +kernel), List.mem_of_getElem? (i := 1119) (by decide +kernel)⟩
theorem lw_p40 : lw_okq (⟨"FestivalFieldsModel", "comes", "(IIIZ)V"⟩, 47) := ⟨⟨by decide +kernel, by decide +kernel⟩, List.mem_of_getElem? (i := 903) (by decide +kernel), List.mem_of_getElem? (i := 1125) (by decide +kernel), List.mem_of_getElem? (i := 1126) (by decide +kernel)⟩
theorem lw_p41 : lw_okq (⟨"FestivalFieldsModel", "leads", "(I)I"⟩, 47) := ⟨⟨by decide +kernel, by decide +kernel⟩, List.mem_of_getElem? (i := 903) (by decide +kernel), List.mem_of_getElem? (i := 1129) (by decide +kernel), List.mem_of_getElem? (i := 1130) (by decide +kernel)⟩
theorem lw_p42 : lw_okq (⟨"FestivalFieldsModel", "bears", "(I)I"⟩, 47) := ⟨⟨by decide +kernel, by decide +kernel⟩, List.mem_of_getElem? (i := 903) (by decide +kernel), List.mem_of_getElem? (i := 1133) (by decide +kernel), List.mem_of_getElem? (i := 1134) (by decide +kernel)⟩
theorem lw_p43 : lw_okq (⟨"FestivalFieldsModel", "sends", "(II)V"⟩, 47) := ⟨⟨by decide +kernel, by decide +kernel⟩, List.mem_of_getElem? (i := 903) (by decide +kernel), List.mem_of_getElem? (i := 1139) (by decide +kernel), List.mem_of_getElem? (i := 1140) (by decide +kernel)⟩
theorem lw_p44 : lw_okq (⟨"FestivalFieldsModel", "spreads", "(II)V"⟩, 47) := ⟨⟨by decide +kernel, by decide +kernel⟩, List.mem_of_getElem? (i := 903) (by decide +kernel), List.mem_of_getElem? (i := 1143) (by decide +kernel), List.mem_of_getElem? (i := 1144) (by decide +kernel)⟩
theorem lw_p45 : lw_okq (⟨"FestivalFieldsModel", "worstOf", "()I"⟩, 47) := ⟨⟨by decide +kernel, by decide +kernel⟩, List.mem_of_getElem? (i := 903) (by decide +kernel), List.mem_of_getElem? (i := 1151) (by decide +kernel), List.mem_of_getElem? (i := 1152) (by decide +kernel)⟩
theorem lw_p46 : lw_okq (⟨"FestivalFieldsModel", "seeks", "()I"⟩, 47) := ⟨⟨by decide +kernel, by decide +kernel⟩, List.mem_of_getElem? (i := 903) (by decide +kernel), List.mem_of_getElem? (i := 1164) (by decide +kernel), List.mem_of_getElem? (i := 1165) (by decide +kernel)⟩
theorem lw_p47 : lw_okq (⟨"FestivalFieldsModel", "aboveOfAll", "()I"⟩, 47) := ⟨⟨by decide +kernel, by decide +kernel⟩, List.mem_of_getElem? (i := 903) (by decide +kernel), List.mem_of_getElem? (i := 1168) (by decide +kernel), List.mem_of_getElem? (i := 1169) (by decide +kernel)⟩
def lw_privs_3 : List (MethodName × Nat) := [(⟨"FestivalFields$Reader", "readNumber", "(II)I"⟩, 3), (⟨"FestivalFields$Reader", "readWord", "(Ljava/lang/String;)V"⟩, 3), (⟨"FestivalFieldsModel", "throwsIf", "(ZI)Z"⟩, 47), (⟨"FestivalFieldsModel", "isFree", "(III)Z"⟩, 47), (⟨"FestivalFieldsModel", "noPlace", "(I)Z"⟩, 47), (⟨"FestivalFieldsModel", "adds", "(IIIII)V"⟩, 47), (⟨"FestivalFieldsModel", "emptied", "(I)I"⟩, 47), (⟨"FestivalFieldsModel", "more", "(II)I"⟩, 47), (⟨"FestivalFieldsModel", "comes", "(IIIZ)V"⟩, 47), (⟨"FestivalFieldsModel", "leads", "(I)I"⟩, 47), (⟨"FestivalFieldsModel", "bears", "(I)I"⟩, 47), (⟨"FestivalFieldsModel", "sends", "(II)V"⟩, 47), (⟨"FestivalFieldsModel", "spreads", "(II)V"⟩, 47), (⟨"FestivalFieldsModel", "worstOf", "()I"⟩, 47), (⟨"FestivalFieldsModel", "seeks", "()I"⟩, 47), (⟨"FestivalFieldsModel", "aboveOfAll", "()I"⟩, 47)]
theorem lw_r3 : ∀ q ∈ lw_privs_3, lw_okq q := List.forall_mem_cons.mpr ⟨lw_p32, List.forall_mem_cons.mpr ⟨lw_p33, List.forall_mem_cons.mpr ⟨lw_p34, List.forall_mem_cons.mpr ⟨lw_p35, List.forall_mem_cons.mpr ⟨lw_p36, List.forall_mem_cons.mpr ⟨lw_p37, List.forall_mem_cons.mpr ⟨lw_p38, List.forall_mem_cons.mpr ⟨lw_p39, List.forall_mem_cons.mpr ⟨lw_p40, List.forall_mem_cons.mpr ⟨lw_p41, List.forall_mem_cons.mpr ⟨lw_p42, List.forall_mem_cons.mpr ⟨lw_p43, List.forall_mem_cons.mpr ⟨lw_p44, List.forall_mem_cons.mpr ⟨lw_p45, List.forall_mem_cons.mpr ⟨lw_p46, List.forall_mem_cons.mpr ⟨lw_p47, fun _ h => absurd h List.not_mem_nil⟩⟩⟩⟩⟩⟩⟩⟩⟩⟩⟩⟩⟩⟩⟩⟩
theorem lw_p48 : lw_okq (⟨"FestivalFieldsModel", "above", "(II)I"⟩, 47) := ⟨⟨by decide +kernel, by decide +kernel⟩, List.mem_of_getElem? (i := 903) (by decide +kernel), List.mem_of_getElem? (i := 1172) (by decide +kernel), List.mem_of_getElem? (i := 1173) (by decide +kernel)⟩
theorem lw_p49 : lw_okq (⟨"FestivalFieldsModel", "isInside", "(III)Z"⟩, 47) := ⟨⟨by decide +kernel, by decide +kernel⟩, List.mem_of_getElem? (i := 903) (by decide +kernel), List.mem_of_getElem? (i := 1199) (by decide +kernel), List.mem_of_getElem? (i := 1200) (by decide +kernel)⟩
theorem lw_p50 : lw_okq (⟨"FestivalFieldsModel", "lastOf", "(IIII)I"⟩, 47) := ⟨⟨by decide +kernel, by decide +kernel⟩, List.mem_of_getElem? (i := 903) (by decide +kernel), List.mem_of_getElem? (i := 1203) (by decide +kernel), List.mem_of_getElem? (i := 1204) (by decide +kernel)⟩
theorem lw_p51 : lw_okq (⟨"FestivalFieldsModel", "readAll", "()I"⟩, 47) := ⟨⟨by decide +kernel, by decide +kernel⟩, List.mem_of_getElem? (i := 903) (by decide +kernel), List.mem_of_getElem? (i := 1227) (by decide +kernel), List.mem_of_getElem? (i := 1228) (by decide +kernel)⟩
theorem lw_p52 : lw_okq (⟨"FestivalFieldsModel", "readTerm", "(I)Z"⟩, 47) := ⟨⟨by decide +kernel, by decide +kernel⟩, List.mem_of_getElem? (i := 903) (by decide +kernel), List.mem_of_getElem? (i := 1231) (by decide +kernel), List.mem_of_getElem? (i := 1232) (by decide +kernel)⟩
theorem lw_p53 : lw_okq (⟨"FestivalFieldsModel", "word", "()V"⟩, 47) := ⟨⟨by decide +kernel, by decide +kernel⟩, List.mem_of_getElem? (i := 903) (by decide +kernel), List.mem_of_getElem? (i := 1235) (by decide +kernel), List.mem_of_getElem? (i := 1236) (by decide +kernel)⟩
theorem lw_p54 : lw_okq (⟨"FestivalFieldsModel", "blanks", "()V"⟩, 47) := ⟨⟨by decide +kernel, by decide +kernel⟩, List.mem_of_getElem? (i := 903) (by decide +kernel), List.mem_of_getElem? (i := 1239) (by decide +kernel), List.mem_of_getElem? (i := 1240) (by decide +kernel)⟩
theorem lw_p55 : lw_okq (⟨"FestivalFieldsModel", "isAt", "(II)Z"⟩, 47) := ⟨⟨by decide +kernel, by decide +kernel⟩, List.mem_of_getElem? (i := 903) (by decide +kernel), List.mem_of_getElem? (i := 1243) (by decide +kernel), List.mem_of_getElem? (i := 1244) (by decide +kernel)⟩
theorem lw_p56 : lw_okq (⟨"FestivalFieldsModel", "isWord", "(Ljava/lang/String;)Z"⟩, 47) := ⟨⟨by decide +kernel, by decide +kernel⟩, List.mem_of_getElem? (i := 903) (by decide +kernel), List.mem_of_getElem? (i := 1248) (by decide +kernel), List.mem_of_getElem? (i := 1249) (by decide +kernel)⟩
theorem lw_p57 : lw_okq (⟨"FestivalFieldsModel", "number", "(III)Z"⟩, 47) := ⟨⟨by decide +kernel, by decide +kernel⟩, List.mem_of_getElem? (i := 903) (by decide +kernel), List.mem_of_getElem? (i := 1259) (by decide +kernel), List.mem_of_getElem? (i := 1260) (by decide +kernel)⟩
theorem lw_p58 : lw_okq (⟨"FestivalFieldsModel", "holds", "(I)Z"⟩, 47) := ⟨⟨by decide +kernel, by decide +kernel⟩, List.mem_of_getElem? (i := 903) (by decide +kernel), List.mem_of_getElem? (i := 1273) (by decide +kernel), List.mem_of_getElem? (i := 1274) (by decide +kernel)⟩
theorem lw_p59 : lw_okq (⟨"FestivalFieldsModel", "crowdOfAll", "()I"⟩, 47) := ⟨⟨by decide +kernel, by decide +kernel⟩, List.mem_of_getElem? (i := 903) (by decide +kernel), List.mem_of_getElem? (i := 1277) (by decide +kernel), List.mem_of_getElem? (i := 1278) (by decide +kernel)⟩
theorem lw_p60 : lw_okq (⟨"FestivalFieldsModel", "standing", "()I"⟩, 47) := ⟨⟨by decide +kernel, by decide +kernel⟩, List.mem_of_getElem? (i := 903) (by decide +kernel), List.mem_of_getElem? (i := 1281) (by decide +kernel), List.mem_of_getElem? (i := 1282) (by decide +kernel)⟩
def lw_privs_4 : List (MethodName × Nat) := [(⟨"FestivalFieldsModel", "above", "(II)I"⟩, 47), (⟨"FestivalFieldsModel", "isInside", "(III)Z"⟩, 47), (⟨"FestivalFieldsModel", "lastOf", "(IIII)I"⟩, 47), (⟨"FestivalFieldsModel", "readAll", "()I"⟩, 47), (⟨"FestivalFieldsModel", "readTerm", "(I)Z"⟩, 47), (⟨"FestivalFieldsModel", "word", "()V"⟩, 47), (⟨"FestivalFieldsModel", "blanks", "()V"⟩, 47), (⟨"FestivalFieldsModel", "isAt", "(II)Z"⟩, 47), (⟨"FestivalFieldsModel", "isWord", "(Ljava/lang/String;)Z"⟩, 47), (⟨"FestivalFieldsModel", "number", "(III)Z"⟩, 47), (⟨"FestivalFieldsModel", "holds", "(I)Z"⟩, 47), (⟨"FestivalFieldsModel", "crowdOfAll", "()I"⟩, 47), (⟨"FestivalFieldsModel", "standing", "()I"⟩, 47)]
theorem lw_r4 : ∀ q ∈ lw_privs_4, lw_okq q := List.forall_mem_cons.mpr ⟨lw_p48, List.forall_mem_cons.mpr ⟨lw_p49, List.forall_mem_cons.mpr ⟨lw_p50, List.forall_mem_cons.mpr ⟨lw_p51, List.forall_mem_cons.mpr ⟨lw_p52, List.forall_mem_cons.mpr ⟨lw_p53, List.forall_mem_cons.mpr ⟨lw_p54, List.forall_mem_cons.mpr ⟨lw_p55, List.forall_mem_cons.mpr ⟨lw_p56, List.forall_mem_cons.mpr ⟨lw_p57, List.forall_mem_cons.mpr ⟨lw_p58, List.forall_mem_cons.mpr ⟨lw_p59, List.forall_mem_cons.mpr ⟨lw_p60, fun _ h => absurd h List.not_mem_nil⟩⟩⟩⟩⟩⟩⟩⟩⟩⟩⟩⟩⟩
def lw_privs : List (MethodName × Nat) := lw_privs_1 ++ (lw_privs_2 ++ (lw_privs_3 ++ (lw_privs_4)))
def lw_tbl : List Cond := k2_sels lw_privs ++ tables_1
theorem lw_privs_ok : ∀ q ∈ lw_privs, lw_okq q := by
  show ∀ q ∈ lw_privs_1 ++ (lw_privs_2 ++ (lw_privs_3 ++ (lw_privs_4))), lw_okq q
  exact List.forall_mem_append.mpr ⟨lw_r1, List.forall_mem_append.mpr ⟨lw_r2, List.forall_mem_append.mpr ⟨lw_r3, lw_r4⟩⟩⟩
end
section
/-! ===== BEGIN words of one list among another's, by their places ===== -/
theorem goodIn_r {big : List Cond} (ws : List Cond) (ps : List Nat) (hp : ws = ps.filterMap (fun i => big[i]?)) (h : ws.all goodWord = true) : GoodIn big ws := by
  intro w hw
  have h1 := List.all_eq_true.mp h w hw
  rw [hp] at hw
  obtain ⟨i, -, hi⟩ := List.mem_filterMap.mp hw
  have hm : w ∈ big := by first | exact List.mem_of_getElem? hi | exact List.getElem?_mem hi
  exact ⟨hm, good_of_word h1⟩
theorem goodIn_app {big a b : List Cond} (ha : GoodIn big a) (hb : GoodIn big b) : GoodIn big (a ++ b) := fun w h => (List.mem_append.mp h).elim (ha w) (hb w)
theorem goodIn_ca {big a b : List Cond} {c : Cond} (ha : GoodIn big (c :: a)) (hb : GoodIn big b) : GoodIn big (c :: (a ++ b)) := fun w h => (List.mem_cons.mp h).elim (fun e => ha w (List.mem_cons.mpr (Or.inl e))) (fun h => (List.mem_append.mp h).elim (fun h => ha w (List.mem_cons.mpr (Or.inr h))) (hb w))
theorem goodIn_sub {big ws : List Cond} (hm : ∀ w ∈ ws, w ∈ big) (h : ws.all goodWord = true) : GoodIn big ws := fun w hw => ⟨hm w hw, good_of_word (List.all_eq_true.mp h w hw)⟩
/-! ===== END ===== -/

/-! ===== BEGIN exceptions that leave a method, and their catching by the caller (launches without stack traces) ===== -/
section VXA
/-! The laws vx_back, vx_callV, vx_callS, vx_callSW, vx_throw0, vx_throwS follow proofs of the library, with one case more: JvmDerived/Free/Laws.lean (Back.of_free), Shelf42/LK1.lean (callV, callS), Shelf/KitTraced.lean (throwNew0V, throwNewS). -/

/-- where a method has thrown q: the class by its name, the cell, what was written, the world -/
def vx_T (XC : String → State → State → Prop) (st : State) (q : Addr) (t : State) (mc ms : Nat) (free : Addr → Prop) : Prop :=
  ∃ (E : String) (ce : Cell) (L : List Loc), XC E st t ∧ t.heap[q]? = some ce ∧ ce.vm = .none ∧ st.vm.findClass E = some ce.cls ∧ st.WarmedH t.vm ∧ st.sameButNew ({ t with vm := st.vm } : State) L mc ms ∧ ∀ z ∈ L, free z.base
def vx_Q (Qc : Array Value → State → Outcome → State → Prop) (XC : String → State → State → Prop) (mc ms : Nat) (free : Addr → Prop) : Array Value → State → Outcome → State → Prop := fun a st o t =>
  (Qc a st o t ∧ ∃ L, FrameEnd st o t L mc ms ∧ ∀ q ∈ L, free q.base) ∨ ∃ q, o = .threw q ∧ vx_T XC st q t mc ms free
/-- a callee that returns or throws -/
def vx_Met (l : Launch) (y : MethodName) (ws : List Cond) (rm : Room) (Pc : Array Value → State → Prop) (Qc : Array Value → State → Outcome → State → Prop) (XC : String → State → State → Prop) (mc ms : Nat) (free : Addr → Prop) : Prop :=
  MetFree l y (headSpec ws rm) Pc (fun _ _ _ _ _ => True) (vx_Q Qc XC mc ms free)
def vx_Post (XC : String → State → State → Prop) (mc ms : Nat) (free : Addr → Prop) : Pt → Array Value → Addr → Pt → Prop := fun A a q B =>
  ∃ (g : JFrame) (mk : MethodId) (t : State) (L : List Loc) (E : String) (ce : Cell), B.U.heap = t.heap ∧ B.U.vm = t.vm ∧ XC E (A.U.calling g mk a) t ∧ t.heap[q]? = some ce ∧ ce.vm = .none ∧ A.U.vm.findClass E = some ce.cls ∧ B.locs = A.locs ++ L ∧ (∀ z ∈ L, free z.base) ∧ B.cells = A.cells + mc ∧ B.slots = A.slots + ms
def vx_Back (l : Launch) (R : Room) (p : Program) (e : Env) (below : List Frame) (s : State) (sargs : Array Value) (y : MethodName) (len W9 : Nat)
    (Pre : Pt → Array Value → Prop) (Post : Pt → Array Value → Option Value → Pt → Prop) (PostX : Pt → Array Value → Addr → Pt → Prop) : Prop :=
  ∀ (m : MethodId) (meth : Method) (c : Code) (A : Pt) (g : JFrame) (ig : Instr) (mk : MethodId) (a : Array Value),
    Stand p l e R s m sargs below meth c A.U A.locs A.cells A.slots → g.method = m → g.locals.size = c.maxLocals → decode c.code g.pc = .ok (ig, len) →
    2 * g.monitorRoom + (g.stack.map fun v => v.category).sum ≤ W9 → A.U.methodNamed? y = some mk → Pre A a →
    (∃ (v : Option Value) (B : Pt), Stand p l e R s m sargs below meth c B.U B.locs B.cells B.slots ∧ Post A a v B ∧
      Steps p.tables e below (doInvoke e (A.U.setTop g) [] mk a).1 (B.U.setTop { g with pc := g.pc + len, stack := v.toList ++ g.stack })) ∨
    (∃ (q : Addr) (B : Pt), Stand p l e R s m sargs below meth c B.U B.locs B.cells B.slots ∧ PostX A a q B ∧
      Steps p.tables e below (doInvoke e (A.U.setTop g) [] mk a).1 ((B.U.setTop g).pushFrame (.throwing q)))
section Payer
variable {l : Launch} {R : Room} {p : Program} {e : Env} {below : List Frame} {s : State} {sargs : Array Value} {y : MethodName} {len W9 : Nat}
theorem vx_back {ws : List Cond} {rm : Room} {Pc : Array Value → State → Prop} {Qc : Array Value → State → Outcome → State → Prop} {XC : String → State → State → Prop} {mc ms : Nat} {free : Addr → Prop} {bytes : ByteArray} {maxL : Nat} {ret : Option FieldType}
    (hM : vx_Met l y ws rm Pc Qc XC mc ms free) (hblind : FrameBlind Pc) (hrc : rm.cells = mc) (hrs : rm.slots = ms)
    (hframes : rm.frames + 1 ≤ R.frames) (hlocals : W9 + (maxL + 11) + rm.locals ≤ R.locals)
    (hws : ∀ w ∈ ws, ∀ a' U, s.WarmedH U.vm → w.before a' U = true) (hcode : Cond.code y bytes maxL ret ∈ ws) (hinit : ∀ a' U, s.WarmedH U.vm → (Cond.initialized y.cls).before a' U = true) :
    vx_Back l R p e below s sargs y len W9 (PreOf R mc ms Pc) (PostOf Qc mc ms free) (vx_Post XC mc ms free) := by
  intro m meth c A g ig mk a X hg hsize hdg hW hn hp
  have h1 : (headSpec ws rm).pre.before a A.U = true := atoms_intro fun w hw => hws w hw _ _ X.warmed
  have h2 : (Cond.code y bytes maxL ret).before a A.U = true := hws _ hcode _ _ X.warmed
  have h3 : (Cond.initialized y.cls).before a A.U = true := hinit _ _ X.warmed
  have h4 : A.cells + (headSpec ws rm).room.cells ≤ R.cells := by rw [show (headSpec ws rm).room.cells = mc from hrc]; exact hp.1
  have h5 : A.slots + (headSpec ws rm).room.slots ≤ R.slots := by rw [show (headSpec ws rm).room.slots = ms from hrs]; exact hp.2.1
  have hPc : Pc a (A.U.calling g mk a) := hblind _ _ _ _ hp.2.2
  obtain ⟨U, Ls, c0, s0⟩ := A
  dsimp only [Pt.U, Pt.locs, Pt.cells, Pt.slots] at h1 h2 h3 h4 h5 X hn hPc ⊢
  obtain ⟨methY, cY, hmY, hcY, -, hlY, -, -, -, -⟩ := Cond.code_spec hn h2
  obtain ⟨kY, hkY, -⟩ := className_of_methodNamed hn
  have hinitY : kY.init = .initialized := Cond.initialized_spec (findClass_of_methodNamed hn) hkY h3
  have h : At U g.method c below := by rw [hg]; exact X.here
  have hlocals9 : W9 + (maxL + 11) + (headSpec ws rm).room.locals ≤ R.locals := hlocals
  have happ : (headSpec ws rm).appliesLoose y e.platform (U.calling g mk a) = true :=
    Spec.appliesLoose_calling (g := g) h hdg hn hkY hinitY
      (X.room_calling (g := g) (R' := (headSpec ws rm).room) hsize hmY hcY hframes (by rw [hlY]; omega) h4 h5) h1
  obtain ⟨mid, hmid⟩ := h.above
  have hfr : (U.setTop g).frames = (.java g :: mid) ++ below := by rw [State.frames_setTop' g h.top, hmid]; rfl
  obtain ⟨o, s₂, hsteps, -, hend, hq⟩ := Steps.callFree hM p X.admits X.cas X.clock (acts := []) hfr happ hPc trivial
  have hq' : vx_Q Qc XC mc ms free a (U.calling g mk a) o s₂ := hq
  rw [State.frames_setTop' g h.top] at hend
  obtain ⟨g₀, hg0⟩ := Option.isSome_iff_exists.mp h.top
  obtain ⟨r, hr⟩ := State.topJava?_eq_some.mp hg0
  have hr' : (({ U with heap := s₂.heap, slotsUsed := s₂.slotsUsed } : State).setVm s₂.vm).frames = .java g₀ :: r := hr
  rcases hq' with ⟨hqc, L, hfe, hL⟩ | ⟨q, rfl, E, ce, L, hx, hce, hcv, hcl, hW₂, hsm, hL⟩
  · obtain ⟨⟨v, rfl⟩, hW₂, e2, q2, q3, q4, q5, q6⟩ := id hfe
    have e3 : s₂ = ({ (U.calling g mk a).setFrames s₂.frames with heap := s₂.heap, slotsUsed := s₂.slotsUsed } : State).setVm s₂.vm := by
      have : s₂ = ({ s₂ with vm := (U.calling g mk a).vm } : State).setVm s₂.vm := rfl
      rw [e2] at this
      exact this
    obtain ⟨c₂, i₂, len₂, hc₂, hd₂, hf₂⟩ := hend
    have hW' : U.WarmedH s₂.vm := hW₂
    have hcc : c₂ = c := by
      have h1 : s₂.code? g.method = U.code? g.method := by
        rw [State.code?_eq, State.code?_eq, hW'.alike.method?]
      exact Option.some.inj (hc₂.symm.trans (h1.trans h.code))
    subst hcc
    have hlen : len₂ = len := by rw [hdg] at hd₂; cases hd₂; rfl
    subst hlen
    have hs₂ : s₂ = (({ U with heap := s₂.heap, slotsUsed := s₂.slotsUsed } : State).setVm s₂.vm).setTop { g with pc := g.pc + len₂, stack := v.toList ++ g.stack } := by
      refine e3.trans ?_
      rw [hf₂, State.calling_eq h.top, State.setFrames_setFrames, State.setTop_of_frames _ hr', hr]
      rfl
    have hsame : U.sameButNew ({ U with heap := s₂.heap, slotsUsed := s₂.slotsUsed } : State) L mc ms := by
      refine ⟨?_, q2, q3, q4, q5, q6⟩
      obtain ⟨t, ht, -⟩ := State.frames_cons hr
      show ({ U with heap := s₂.heap, slotsUsed := s₂.slotsUsed } : State) = { U.setFrames U.frames with heap := s₂.heap, slotsUsed := s₂.slotsUsed }
      rw [State.setFrames_self ht]
    subst hg
    refine Or.inl ⟨v, ⟨(({ U with heap := s₂.heap, slotsUsed := s₂.slotsUsed } : State).setVm s₂.vm), Ls ++ L, c0 + mc, s0 + ms⟩,
      ⟨X.admits, X.cas, X.clock, X.frames, X.room, X.hears, X.method, X.code, (X.here.setHeapUsed s₂.heap s₂.slotsUsed).setVm hW'.alike, X.tail, State.WarmedH.trans X.warmed hW', X.limits, X.bytes, X.same.trans (hsame.setVm s.vm)⟩,
      ⟨g, mk, s₂, L, rfl, rfl, hqc, rfl, hL, rfl, rfl⟩, ?_⟩
    show Steps p.tables e below _ ((({ U with heap := s₂.heap, slotsUsed := s₂.slotsUsed } : State).setVm s₂.vm).setTop { g with pc := g.pc + len₂, stack := v.toList ++ g.stack })
    rw [← hs₂]
    exact hsteps
  · obtain ⟨e2, q2, q3, q4, q5, q6⟩ := id hsm
    have e3 : s₂ = ({ (U.calling g mk a).setFrames s₂.frames with heap := s₂.heap, slotsUsed := s₂.slotsUsed } : State).setVm s₂.vm := by
      have : s₂ = ({ s₂ with vm := (U.calling g mk a).vm } : State).setVm s₂.vm := rfl
      rw [e2] at this
      exact this
    have hf₂ : s₂.frames = .throwing q :: .java g :: U.frames.tail := hend
    have hW' : U.WarmedH s₂.vm := hW₂
    have hs₂ : s₂ = ((({ U with heap := s₂.heap, slotsUsed := s₂.slotsUsed } : State).setVm s₂.vm).setTop g).pushFrame (.throwing q) := by
      refine e3.trans ?_
      rw [hf₂, State.calling_eq h.top, State.setFrames_setFrames, State.pushFrame, State.frames_setTop _ hr', State.setTop_of_frames _ hr', State.setFrames_setFrames, hr]
      rfl
    have hsame : U.sameButNew ({ U with heap := s₂.heap, slotsUsed := s₂.slotsUsed } : State) L mc ms := by
      refine ⟨?_, q2, q3, q4, q5, q6⟩
      obtain ⟨t, ht, -⟩ := State.frames_cons hr
      show ({ U with heap := s₂.heap, slotsUsed := s₂.slotsUsed } : State) = { U.setFrames U.frames with heap := s₂.heap, slotsUsed := s₂.slotsUsed }
      rw [State.setFrames_self ht]
    subst hg
    refine Or.inr ⟨q, ⟨(({ U with heap := s₂.heap, slotsUsed := s₂.slotsUsed } : State).setVm s₂.vm), Ls ++ L, c0 + mc, s0 + ms⟩,
      ⟨X.admits, X.cas, X.clock, X.frames, X.room, X.hears, X.method, X.code, (X.here.setHeapUsed s₂.heap s₂.slotsUsed).setVm hW'.alike, X.tail, State.WarmedH.trans X.warmed hW', X.limits, X.bytes, X.same.trans (hsame.setVm s.vm)⟩,
      ⟨g, mk, s₂, L, E, ce, rfl, rfl, hx, hce, hcv, hcl, rfl, hL, rfl, rfl⟩, ?_⟩
    show Steps p.tables e below _ (((({ U with heap := s₂.heap, slotsUsed := s₂.slotsUsed } : State).setVm s₂.vm).setTop g).pushFrame (.throwing q))
    rw [← hs₂]
    exact hsteps
end Payer
section Calls
variable {p : Program} {l : Launch} {e : Env} {R : Room} {s : State} {m : MethodId} {args : Array Value} {below : List Frame} {meth : Method} {c : Code} {T : State} {locs : List Loc} {cells slots : Nat}
theorem vx_callV (X : Stand p l e R s m args below meth c T locs cells slots) (hexec : p.tables.exec = Jvm.exec) {own C : String} {index : Nat} {y : MethodName} {bytes : ByteArray} {maxL : Nat} {ret : Option FieldType}
    (hown : s.vm.findClass own = some m.cls) (hlink : (Cond.methodLink own index y).before args s = true) (hinst : (Cond.instanceMethod y).before args s = true) (hsel : (Cond.selects C y y).before args s = true)
    (hcode : (Cond.code y bytes maxL ret).before args s = true) (hy : y.cls ≠ "java/lang/invoke/MethodHandle" ∧ y.cls ≠ "java/lang/invoke/VarHandle")
    {W9 : Nat} {Pre : Pt → Array Value → Prop} {Post : Pt → Array Value → Option Value → Pt → Prop} {PostX : Pt → Array Value → Addr → Pt → Prop} (hK : vx_Back l R p e below s args y 3 W9 Pre Post PostX)
    {b : Addr} {cellB : Cell} (hcell : T.heap[b]? = some cellB) (hobj : cellB.vm.isStatics = false) (hcls : s.vm.findClass C = some cellB.cls)
    {g : JFrame} (hg : g.method = m) (hsize : g.locals.size = c.maxLocals) {argsL rest : List Value} (hlen : ∀ sig, parseMethodDescriptor y.desc = some sig → argsL.length = sig.parameters.length)
    (hstack : g.stack = argsL.reverse ++ .ref b :: rest) (hW : 2 * g.monitorRoom + (rest.map fun v => v.category).sum ≤ W9) (hdg : decode c.code g.pc = .ok (.invokevirtual index, 3))
    (hpre : ∀ vm₁, s.WarmedH vm₁ → Pre ⟨T.setVm vm₁, locs, cells, slots⟩ (Value.ref b :: argsL).toArray) :
    (∃ (v : Option Value) (vm₁ : Vm) (B : Pt), s.WarmedH vm₁ ∧ Stand p l e R s m args below meth c B.U B.locs B.cells B.slots ∧ Post ⟨T.setVm vm₁, locs, cells, slots⟩ (Value.ref b :: argsL).toArray v B ∧
      ∀ target, Steps p.tables e below (B.U.setTop { g with pc := g.pc + 3, stack := v.toList ++ rest }) target → Steps p.tables e below (T.setTop g) target) ∨
    (∃ (q : Addr) (vm₁ : Vm) (B : Pt), s.WarmedH vm₁ ∧ Stand p l e R s m args below meth c B.U B.locs B.cells B.slots ∧ PostX ⟨T.setVm vm₁, locs, cells, slots⟩ (Value.ref b :: argsL).toArray q B ∧
      Steps p.tables e below (T.setTop g) ((B.U.setTop { g with stack := rest }).pushFrame (.throwing q))) := by
  obtain ⟨mk, methM, hnamed, hmethM, hstM, habM⟩ := Cond.instanceMethod_spec hinst
  obtain ⟨methM', cM, hmethM', -, -, -, -, -, -, hsigM⟩ := Cond.code_spec hnamed hcode
  cases hmethM.symm.trans hmethM'
  obtain ⟨c2, r2, m2, q1, q2, q3, q4, kP, hkP, hkPi⟩ := Cond.selects_spec hsel
  cases hcls.symm.trans q1
  cases (State.methodFound?_of_named hnamed hy).symm.trans q2
  cases hnamed.symm.trans q3
  have hselP : selectMethod e.platform s.vm cellB.cls mk = .method mk := by rw [Launch.admits_selectMethod X.admits]; exact q4
  obtain ⟨vm₁, X₁, hstep₁⟩ := X.invokevirtual hexec hown hlink hnamed hmethM hstM hkP hkPi hy (a := b) (cell := cellB) hcell
    (fun z h => by rw [h] at hobj; cases hobj) hselP hmethM habM hkP hkPi (g := g) hg (argsL := argsL) (rest := rest) (hlen _ hsigM) hstack hdg
  rcases hK m meth c ⟨T.setVm vm₁, locs, cells, slots⟩ { g with stack := rest } (.invokevirtual index) mk (Value.ref b :: argsL).toArray X₁ hg hsize hdg hW (X₁.named hnamed) (hpre vm₁ X₁.warmed) with ⟨v, B, X', hpost, hsteps⟩ | ⟨q, B, X', hpost, hsteps⟩
  · exact Or.inl ⟨v, vm₁, B, X₁.warmed, X', hpost, fun target h => hstep₁ _ fun acts => by rw [doInvoke_state]; exact hsteps.trans h⟩
  · exact Or.inr ⟨q, vm₁, B, X₁.warmed, X', hpost, hstep₁ _ fun acts => by rw [doInvoke_state]; exact hsteps⟩
theorem vx_callS (X : Stand p l e R s m args below meth c T locs cells slots) (hexec : p.tables.exec = Jvm.exec) {own : String} {index : Nat} {y : MethodName} {bytes : ByteArray} {maxL : Nat} {ret : Option FieldType}
    (hown : s.vm.findClass own = some m.cls) (hlink : (Cond.methodLink own index y).before args s = true) (hstat : (Cond.static y).before args s = true) (hinit : (Cond.initialized y.cls).before args s = true)
    (hcode : (Cond.code y bytes maxL ret).before args s = true) (hy : y.cls ≠ "java/lang/invoke/MethodHandle" ∧ y.cls ≠ "java/lang/invoke/VarHandle")
    {W9 : Nat} {Pre : Pt → Array Value → Prop} {Post : Pt → Array Value → Option Value → Pt → Prop} {PostX : Pt → Array Value → Addr → Pt → Prop} (hK : vx_Back l R p e below s args y 3 W9 Pre Post PostX)
    {g : JFrame} (hg : g.method = m) (hsize : g.locals.size = c.maxLocals) {argsL rest : List Value} (hlen : ∀ sig, parseMethodDescriptor y.desc = some sig → argsL.length = sig.parameters.length)
    (hstack : g.stack = argsL.reverse ++ rest) (hW : 2 * g.monitorRoom + (rest.map fun v => v.category).sum ≤ W9) (hdg : decode c.code g.pc = .ok (.invokestatic index, 3))
    (hpre : ∀ vm₁, s.WarmedH vm₁ → Pre ⟨T.setVm vm₁, locs, cells, slots⟩ argsL.toArray) :
    (∃ (v : Option Value) (vm₁ : Vm) (B : Pt), s.WarmedH vm₁ ∧ Stand p l e R s m args below meth c B.U B.locs B.cells B.slots ∧ Post ⟨T.setVm vm₁, locs, cells, slots⟩ argsL.toArray v B ∧
      ∀ target, Steps p.tables e below (B.U.setTop { g with pc := g.pc + 3, stack := v.toList ++ rest }) target → Steps p.tables e below (T.setTop g) target) ∨
    (∃ (q : Addr) (vm₁ : Vm) (B : Pt), s.WarmedH vm₁ ∧ Stand p l e R s m args below meth c B.U B.locs B.cells B.slots ∧ PostX ⟨T.setVm vm₁, locs, cells, slots⟩ argsL.toArray q B ∧
      Steps p.tables e below (T.setTop g) ((B.U.setTop { g with stack := rest }).pushFrame (.throwing q))) := by
  obtain ⟨mk, hnamed⟩ := Cond.code_named hcode
  obtain ⟨methM, cM, hmethM, -, -, -, -, -, -, hsigM⟩ := Cond.code_spec hnamed hcode
  have hstatic : methM.isStatic = true := Cond.static_spec hnamed hmethM hstat
  obtain ⟨kP, hkP, -⟩ := className_of_methodNamed hnamed
  have hinitP : kP.init = .initialized := Cond.initialized_spec (findClass_of_methodNamed hnamed) hkP hinit
  obtain ⟨vm₁, X₁, hstep₁⟩ := X.invokestatic hexec hown hlink hnamed hmethM hstatic hkP hinitP hy (g := g) hg (argsL := argsL) (rest := rest) (hlen _ hsigM) hstack hdg
  rcases hK m meth c ⟨T.setVm vm₁, locs, cells, slots⟩ { g with stack := rest } (.invokestatic index) mk argsL.toArray X₁ hg hsize hdg hW (X₁.named hnamed) (hpre vm₁ X₁.warmed) with ⟨v, B, X', hpost, hsteps⟩ | ⟨q, B, X', hpost, hsteps⟩
  · exact Or.inl ⟨v, vm₁, B, X₁.warmed, X', hpost, fun target h => hstep₁ _ fun acts => by rw [doInvoke_state]; exact hsteps.trans h⟩
  · exact Or.inr ⟨q, vm₁, B, X₁.warmed, X', hpost, hstep₁ _ fun acts => by rw [doInvoke_state]; exact hsteps⟩
end Calls
theorem vx_cls {s : State} {T : State} {vm₁ : Vm} {E : String} {k : ClassId} (hW : s.WarmedH vm₁) (h : (T.setVm vm₁).vm.findClass E = some k) : s.vm.findClass E = some k := by
  have h1 : vm₁.findClass E = some k := h
  rw [hW.alike.findClass] at h1
  exact h1
/-- the method's frame g, with q thrown over it -/
def vx_W (p : Program) (l : Launch) (e : Env) (R : Room) (s : State) (m : MethodId) (args : Array Value) (below : List Frame) (meth : Method) (c : Code) (H : Heap) (locs : List Loc) (cells slots : Nat) (Q : State → Prop) (g : JFrame) (q : Addr) : Prop :=
  ∀ T : State, T.heap = H → Stand p l e R s m args below meth c T locs cells slots → ∃ t, Steps p.tables e below ((T.setTop g).pushFrame (.throwing q)) t ∧ Q t
def vx_Run (p : Program) (l : Launch) (e : Env) (R : Room) (s : State) (m : MethodId) (args : Array Value) (below : List Frame) (meth : Method) (c : Code) (H : Heap) (locs : List Loc) (cells slots mc ms : Nat) (g : JFrame) (rest : List Value) (Qa : State → Outcome → State → Prop) (XC : String → State → State → Prop) (free : Addr → Prop) : Prop :=
  ∀ T : State, T.heap = H → Stand p l e R s m args below meth c T locs cells slots →
    (∃ (v : Option Value) (st₀ t T' : State) (L : List Loc), st₀.heap = H ∧ Stand p l e R s m args below meth c T' (locs ++ L) (cells + mc) (slots + ms) ∧ (∀ q ∈ L, free q.base) ∧ T'.heap = t.heap ∧ T'.vm = t.vm ∧ Qa st₀ (.returned v) t ∧
      Goes p e below T g T' { g with pc := g.pc + 3, stack := v.toList ++ rest }) ∨
    (∃ (q : Addr) (st₀ t T' : State) (L : List Loc) (E : String) (ce : Cell), st₀.heap = H ∧ Stand p l e R s m args below meth c T' (locs ++ L) (cells + mc) (slots + ms) ∧ (∀ z ∈ L, free z.base) ∧ T'.heap = t.heap ∧ T'.vm = t.vm ∧ XC E st₀ t ∧ t.heap[q]? = some ce ∧ ce.vm = .none ∧ s.vm.findClass E = some ce.cls ∧
      Steps p.tables e below (T.setTop g) ((T'.setTop { g with stack := rest }).pushFrame (.throwing q)))
def vx_X {S : Type} (px : S → Prop) (B : String → S → State → Prop) (A : Nat → Prop) : String → State → State → Prop := fun E st t => ∃ u : S, px u ∧ B E u t ∧ va_F A st t
section Runs
variable {p : Program} {l : Launch} {e : Env} {R : Room} {s : State} {m : MethodId} {args : Array Value} {below : List Frame} {meth : Method} {c : Code} {H : Heap} {locs : List Loc} {cells slots : Nat}
variable {y : MethodName} {bytes cc : ByteArray} {maxL nL mc ms n index : Nat} {ret : Option FieldType} {ws : List Cond} {rm : Room} {Pc : Array Value → State → Prop} {Qc : Array Value → State → Outcome → State → Prop} {XC : String → State → State → Prop} {free : Addr → Prop} {Ts : List Cond} {own C : String} {b : Addr} {As rest : List Value} {g : JFrame}
theorem vx_callBack (cb : CallB R s args own index y bytes maxL ret ws rm mc ms n) (hM : vx_Met l y ws rm Pc Qc XC mc ms free) (hbl : FrameBlind Pc) : vx_Back l R p e below s args y 3 8 (PreOf R mc ms Pc) (PostOf Qc mc ms free) (vx_Post XC mc ms free) := by
  obtain ⟨hrc, hrs, hfr, hlo, hws, hcw, -, hini, -⟩ := cb
  exact vx_back (bytes := bytes) (maxL := maxL) (ret := ret) hM hbl hrc hrs hfr hlo hws hcw (fun a' U hW => word_at hW (Or.inl (by first | rfl | simp [Cond.onTables, Cond.keeps, Cond.steady])) hini)
theorem vx_runV (S : CallFix p m c cc nL s args Ts own) (hM : vx_Met l y ws rm Pc Qc XC mc ms free) (cw : CallW R s args own C index y bytes maxL ret ws rm mc ms n) (hp : PreV s H C b Pc As)
    (hg : g.method = m) (hn : As.length = n) (hsize : g.locals.size = nL) (hstack : g.stack = As.reverse ++ .ref b :: rest) (hW : 2 * g.monitorRoom + (rest.map fun v => v.category).sum ≤ 8) (hdg : decode cc g.pc = .ok (.invokevirtual index, 3)) (hf : cells + mc ≤ R.cells ∧ slots + ms ≤ R.slots) :
    vx_Run p l e R s m args below meth c H locs cells slots mc ms g rest (Qc (Value.ref b :: As).toArray) XC free := by
  have hK : vx_Back l R p e below s args y 3 8 (PreOf R mc ms Pc) (PostOf Qc mc ms free) (vx_Post XC mc ms free) := vx_callBack cw.1 hM hp.1
  obtain ⟨⟨-, -, -, -, -, -, hcode, -, hy, hlen, hl⟩, hin, hse⟩ := cw
  obtain ⟨hx, hb, hml, ho, -⟩ := S
  obtain ⟨-, ⟨cellB, hcB, hoB, hclB⟩, hPc⟩ := hp
  intro T hT X
  rcases vx_callV X hx (C := C) (bytes := bytes) (maxL := maxL) (ret := ret) ho hl hin hse hcode hy hK (by rw [hT]; exact hcB) hoB hclB hg (hsize.trans hml.symm) (argsL := As) (rest := rest) (fun sig h => hn.trans (hlen sig h)) hstack hW (by rw [hb]; exact hdg)
    (fun vm₁ hW₁ => ⟨hf.1, hf.2, hPc (T.setVm vm₁) hT hW₁⟩) with ⟨v, vm₁, ⟨U', l2, c2, s2⟩, hW₁, X', ⟨g', mk, t, L, e1, e2, hq, h1, hL, h2, h3⟩, st⟩ | ⟨q, vm₁, ⟨U', l2, c2, s2⟩, hW₁, X', ⟨g', mk, t, L, E, ce, e1, e2, hq, hce, hcv, hcl, h1, hL, h2, h3⟩, st⟩
  · dsimp only [Pt.U, Pt.locs, Pt.cells, Pt.slots] at X' e1 e2 h1 h2 h3 st
    subst h1; subst h2; subst h3
    exact Or.inl ⟨v, (T.setVm vm₁).calling g' mk (Value.ref b :: As).toArray, t, U', L, hT, X', hL, e1, e2, hq, st⟩
  · dsimp only [Pt.U, Pt.locs, Pt.cells, Pt.slots] at X' e1 e2 h1 h2 h3 st hcl
    subst h1; subst h2; subst h3
    exact Or.inr ⟨q, (T.setVm vm₁).calling g' mk (Value.ref b :: As).toArray, t, U', L, E, ce, hT, X', hL, e1, e2, hq, hce, hcv, vx_cls hW₁ hcl, st⟩
theorem vx_runS (S : CallFix p m c cc nL s args Ts own) (hM : vx_Met l y ws rm Pc Qc XC mc ms free) (cw : CallB R s args own index y bytes maxL ret ws rm mc ms n ∧ (Cond.static y).before args s = true) (hp : PreS s H Pc As)
    (hg : g.method = m) (hn : As.length = n) (hsize : g.locals.size = nL) (hstack : g.stack = As.reverse ++ rest) (hW : 2 * g.monitorRoom + (rest.map fun v => v.category).sum ≤ 8) (hdg : decode cc g.pc = .ok (.invokestatic index, 3)) (hf : cells + mc ≤ R.cells ∧ slots + ms ≤ R.slots) :
    vx_Run p l e R s m args below meth c H locs cells slots mc ms g rest (Qc As.toArray) XC free := by
  have hK : vx_Back l R p e below s args y 3 8 (PreOf R mc ms Pc) (PostOf Qc mc ms free) (vx_Post XC mc ms free) := vx_callBack cw.1 hM hp.1
  obtain ⟨⟨-, -, -, -, -, -, hcode, hini, hy, hlen, hl⟩, hstt⟩ := cw
  obtain ⟨hx, hb, hml, ho, -⟩ := S
  intro T hT X
  rcases vx_callS X hx (bytes := bytes) (maxL := maxL) (ret := ret) ho hl hstt hini hcode hy hK hg (hsize.trans hml.symm) (argsL := As) (rest := rest) (fun sig h => hn.trans (hlen sig h)) hstack hW (by rw [hb]; exact hdg)
    (fun vm₁ hW₁ => ⟨hf.1, hf.2, hp.2 (T.setVm vm₁) hT hW₁⟩) with ⟨v, vm₁, ⟨U', l2, c2, s2⟩, hW₁, X', ⟨g', mk, t, L, e1, e2, hq, h1, hL, h2, h3⟩, st⟩ | ⟨q, vm₁, ⟨U', l2, c2, s2⟩, hW₁, X', ⟨g', mk, t, L, E, ce, e1, e2, hq, hce, hcv, hcl, h1, hL, h2, h3⟩, st⟩
  · dsimp only [Pt.U, Pt.locs, Pt.cells, Pt.slots] at X' e1 e2 h1 h2 h3 st
    subst h1; subst h2; subst h3
    exact Or.inl ⟨v, (T.setVm vm₁).calling g' mk As.toArray, t, U', L, hT, X', hL, e1, e2, hq, st⟩
  · dsimp only [Pt.U, Pt.locs, Pt.cells, Pt.slots] at X' e1 e2 h1 h2 h3 st hcl
    subst h1; subst h2; subst h3
    exact Or.inr ⟨q, (T.setVm vm₁).calling g' mk As.toArray, t, U', L, E, ce, hT, X', hL, e1, e2, hq, hce, hcv, vx_cls hW₁ hcl, st⟩
end Runs
section Rows
variable {p : Program} {l : Launch} {e : Env} {R : Room} {s : State} {m : MethodId} {args : Array Value} {below : List Frame} {meth : Method} {c : Code} {H : Heap} {locs : List Loc} {cells slots : Nat} {Q : State → Prop}
variable {mc ms : Nat} {free : Addr → Prop} {A0 A1 : Nat → Prop} {H0 : Heap} {a : Array Value} {pc : Nat} {ls : Array Slot} {st0 rest : List Value}
theorem vx_keep {st₀ t T' : State} {L : List Loc} (h0 : st₀.heap = H) (e1 : T'.heap = t.heap) (hS : va_S A0 H0 H locs) (hA : ∀ q, q < H.size → A1 q → A0 q) (hf : ∀ q, free q → A0 q) (hL : ∀ q ∈ L, free q.base) (hF : va_F A1 st₀ t) :
    H.size ≤ T'.heap.size ∧ (∀ q : Nat, q < H.size → ¬ A1 q → T'.heap[q]? = H[q]?) ∧ va_S A0 H0 T'.heap (locs ++ L) := by
  obtain ⟨hz, hk⟩ := hF
  rw [h0] at hz hk
  exact ⟨by rw [e1]; exact hz, fun q h1 h2 => by rw [e1]; exact hk q h1 h2,
    ⟨Nat.le_trans hS.1 (by rw [e1]; exact hz), fun q h1 h2 => by rw [e1, hk q (Nat.lt_of_lt_of_le h1 hS.1) (fun z => h2 (hA q (Nat.lt_of_lt_of_le h1 hS.1) z))]; exact hS.2.1 q h1 h2, fun q hq => by
      rcases List.mem_append.mp hq with h | h
      · exact hS.2.2 q h
      · exact hf _ (hL q h)⟩⟩
theorem vx_calli {S SX : Type} {post : Int32 → S → Prop} {px : SX → Prop} {B : S → State → Prop} {BX : String → SX → State → Prop} {AX : Nat → Prop} (hr : vx_Run p l e R s m args below meth c H locs cells slots mc ms (F0 m pc ls st0) rest (va_Qi post B A1 a) (vx_X px BX AX) free) (hS : va_S A0 H0 H locs) (hA : ∀ q, q < H.size → A1 q → A0 q) (hf : ∀ q, free q → A0 q) (hAX : ∀ q, q < H.size → AX q → A0 q)
    (kx : ∀ (E : String) (ce : Cell) (q9 : Addr) (u : SX) (t : State) (H1 : Heap) (locs1 : List Loc), t.heap = H1 → s.vm.Alike t.vm → px u → BX E u t → H.size ≤ H1.size → (∀ q : Nat, q < H.size → ¬ AX q → H1[q]? = H[q]?) → va_S A0 H0 H1 locs1 → H1[q9]? = some ce → ce.vm = .none → s.vm.findClass E = some ce.cls → vx_W p l e R s m args below meth c H1 locs1 (cells + mc) (slots + ms) Q (F0 m pc ls rest) q9)
    (kk : ∀ (r : Int32) (u : S) (t : State) (H1 : Heap) (locs1 : List Loc), t.heap = H1 → s.vm.Alike t.vm → post r u → B u t → H.size ≤ H1.size → (∀ q : Nat, q < H.size → ¬ A1 q → H1[q]? = H[q]?) → va_S A0 H0 H1 locs1 → W p l e R s m args below meth c H1 locs1 (cells + mc) (slots + ms) Q (F0 m (pc + 3) ls (.int r :: rest))) : W p l e R s m args below meth c H locs cells slots Q (F0 m pc ls st0) := by
  intro T hT X
  rcases hr T hT X with ⟨v, st₀, t, T', L, h0, X', hL, e1, e2, ⟨⟨r, u, hv, hp, hb⟩, hF⟩, st⟩ | ⟨q, st₀, t, T', L, E, ce, h0, X', hL, e1, e2, ⟨u, hp, hb, hF⟩, hce, hcv, hcl, st⟩
  · cases hv
    obtain ⟨k1, k2, k3⟩ := vx_keep h0 e1 hS hA hf hL hF
    obtain ⟨t2, a1, b1⟩ := kk r u t T'.heap (locs ++ L) e1.symm (by rw [← e2]; exact X'.warmed.alike) hp hb k1 k2 k3 T' rfl X'
    exact ⟨t2, st t2 a1, b1⟩
  · obtain ⟨k1, k2, k3⟩ := vx_keep h0 e1 hS hAX hf hL hF
    obtain ⟨t2, a1, b1⟩ := kx E ce q u t T'.heap (locs ++ L) e1.symm (by rw [← e2]; exact X'.warmed.alike) hp hb k1 k2 k3 (by rw [e1]; exact hce) hcv hcl T' rfl X'
    exact ⟨t2, st.trans a1, b1⟩
theorem vx_calll {S SX : Type} {post : Int64 → S → Prop} {px : SX → Prop} {B : S → State → Prop} {BX : String → SX → State → Prop} {AX : Nat → Prop} (hr : vx_Run p l e R s m args below meth c H locs cells slots mc ms (F0 m pc ls st0) rest (va_Ql post B A1 a) (vx_X px BX AX) free) (hS : va_S A0 H0 H locs) (hA : ∀ q, q < H.size → A1 q → A0 q) (hf : ∀ q, free q → A0 q) (hAX : ∀ q, q < H.size → AX q → A0 q)
    (kx : ∀ (E : String) (ce : Cell) (q9 : Addr) (u : SX) (t : State) (H1 : Heap) (locs1 : List Loc), t.heap = H1 → s.vm.Alike t.vm → px u → BX E u t → H.size ≤ H1.size → (∀ q : Nat, q < H.size → ¬ AX q → H1[q]? = H[q]?) → va_S A0 H0 H1 locs1 → H1[q9]? = some ce → ce.vm = .none → s.vm.findClass E = some ce.cls → vx_W p l e R s m args below meth c H1 locs1 (cells + mc) (slots + ms) Q (F0 m pc ls rest) q9)
    (kk : ∀ (r : Int64) (u : S) (t : State) (H1 : Heap) (locs1 : List Loc), t.heap = H1 → s.vm.Alike t.vm → post r u → B u t → H.size ≤ H1.size → (∀ q : Nat, q < H.size → ¬ A1 q → H1[q]? = H[q]?) → va_S A0 H0 H1 locs1 → W p l e R s m args below meth c H1 locs1 (cells + mc) (slots + ms) Q (F0 m (pc + 3) ls (.long r :: rest))) : W p l e R s m args below meth c H locs cells slots Q (F0 m pc ls st0) := by
  intro T hT X
  rcases hr T hT X with ⟨v, st₀, t, T', L, h0, X', hL, e1, e2, ⟨⟨r, u, hv, hp, hb⟩, hF⟩, st⟩ | ⟨q, st₀, t, T', L, E, ce, h0, X', hL, e1, e2, ⟨u, hp, hb, hF⟩, hce, hcv, hcl, st⟩
  · cases hv
    obtain ⟨k1, k2, k3⟩ := vx_keep h0 e1 hS hA hf hL hF
    obtain ⟨t2, a1, b1⟩ := kk r u t T'.heap (locs ++ L) e1.symm (by rw [← e2]; exact X'.warmed.alike) hp hb k1 k2 k3 T' rfl X'
    exact ⟨t2, st t2 a1, b1⟩
  · obtain ⟨k1, k2, k3⟩ := vx_keep h0 e1 hS hAX hf hL hF
    obtain ⟨t2, a1, b1⟩ := kx E ce q u t T'.heap (locs ++ L) e1.symm (by rw [← e2]; exact X'.warmed.alike) hp hb k1 k2 k3 (by rw [e1]; exact hce) hcv hcl T' rfl X'
    exact ⟨t2, st.trans a1, b1⟩
theorem vx_callf {S SX : Type} {post : UInt32 → S → Prop} {px : SX → Prop} {B : S → State → Prop} {BX : String → SX → State → Prop} {AX : Nat → Prop} (hr : vx_Run p l e R s m args below meth c H locs cells slots mc ms (F0 m pc ls st0) rest (va_Qf post B A1 a) (vx_X px BX AX) free) (hS : va_S A0 H0 H locs) (hA : ∀ q, q < H.size → A1 q → A0 q) (hf : ∀ q, free q → A0 q) (hAX : ∀ q, q < H.size → AX q → A0 q)
    (kx : ∀ (E : String) (ce : Cell) (q9 : Addr) (u : SX) (t : State) (H1 : Heap) (locs1 : List Loc), t.heap = H1 → s.vm.Alike t.vm → px u → BX E u t → H.size ≤ H1.size → (∀ q : Nat, q < H.size → ¬ AX q → H1[q]? = H[q]?) → va_S A0 H0 H1 locs1 → H1[q9]? = some ce → ce.vm = .none → s.vm.findClass E = some ce.cls → vx_W p l e R s m args below meth c H1 locs1 (cells + mc) (slots + ms) Q (F0 m pc ls rest) q9)
    (kk : ∀ (r : UInt32) (u : S) (t : State) (H1 : Heap) (locs1 : List Loc), t.heap = H1 → s.vm.Alike t.vm → post r u → B u t → H.size ≤ H1.size → (∀ q : Nat, q < H.size → ¬ A1 q → H1[q]? = H[q]?) → va_S A0 H0 H1 locs1 → W p l e R s m args below meth c H1 locs1 (cells + mc) (slots + ms) Q (F0 m (pc + 3) ls (.float r :: rest))) : W p l e R s m args below meth c H locs cells slots Q (F0 m pc ls st0) := by
  intro T hT X
  rcases hr T hT X with ⟨v, st₀, t, T', L, h0, X', hL, e1, e2, ⟨⟨r, u, hv, hp, hb⟩, hF⟩, st⟩ | ⟨q, st₀, t, T', L, E, ce, h0, X', hL, e1, e2, ⟨u, hp, hb, hF⟩, hce, hcv, hcl, st⟩
  · cases hv
    obtain ⟨k1, k2, k3⟩ := vx_keep h0 e1 hS hA hf hL hF
    obtain ⟨t2, a1, b1⟩ := kk r u t T'.heap (locs ++ L) e1.symm (by rw [← e2]; exact X'.warmed.alike) hp hb k1 k2 k3 T' rfl X'
    exact ⟨t2, st t2 a1, b1⟩
  · obtain ⟨k1, k2, k3⟩ := vx_keep h0 e1 hS hAX hf hL hF
    obtain ⟨t2, a1, b1⟩ := kx E ce q u t T'.heap (locs ++ L) e1.symm (by rw [← e2]; exact X'.warmed.alike) hp hb k1 k2 k3 (by rw [e1]; exact hce) hcv hcl T' rfl X'
    exact ⟨t2, st.trans a1, b1⟩
theorem vx_calld {S SX : Type} {post : UInt64 → S → Prop} {px : SX → Prop} {B : S → State → Prop} {BX : String → SX → State → Prop} {AX : Nat → Prop} (hr : vx_Run p l e R s m args below meth c H locs cells slots mc ms (F0 m pc ls st0) rest (va_Qd post B A1 a) (vx_X px BX AX) free) (hS : va_S A0 H0 H locs) (hA : ∀ q, q < H.size → A1 q → A0 q) (hf : ∀ q, free q → A0 q) (hAX : ∀ q, q < H.size → AX q → A0 q)
    (kx : ∀ (E : String) (ce : Cell) (q9 : Addr) (u : SX) (t : State) (H1 : Heap) (locs1 : List Loc), t.heap = H1 → s.vm.Alike t.vm → px u → BX E u t → H.size ≤ H1.size → (∀ q : Nat, q < H.size → ¬ AX q → H1[q]? = H[q]?) → va_S A0 H0 H1 locs1 → H1[q9]? = some ce → ce.vm = .none → s.vm.findClass E = some ce.cls → vx_W p l e R s m args below meth c H1 locs1 (cells + mc) (slots + ms) Q (F0 m pc ls rest) q9)
    (kk : ∀ (r : UInt64) (u : S) (t : State) (H1 : Heap) (locs1 : List Loc), t.heap = H1 → s.vm.Alike t.vm → post r u → B u t → H.size ≤ H1.size → (∀ q : Nat, q < H.size → ¬ A1 q → H1[q]? = H[q]?) → va_S A0 H0 H1 locs1 → W p l e R s m args below meth c H1 locs1 (cells + mc) (slots + ms) Q (F0 m (pc + 3) ls (.double r :: rest))) : W p l e R s m args below meth c H locs cells slots Q (F0 m pc ls st0) := by
  intro T hT X
  rcases hr T hT X with ⟨v, st₀, t, T', L, h0, X', hL, e1, e2, ⟨⟨r, u, hv, hp, hb⟩, hF⟩, st⟩ | ⟨q, st₀, t, T', L, E, ce, h0, X', hL, e1, e2, ⟨u, hp, hb, hF⟩, hce, hcv, hcl, st⟩
  · cases hv
    obtain ⟨k1, k2, k3⟩ := vx_keep h0 e1 hS hA hf hL hF
    obtain ⟨t2, a1, b1⟩ := kk r u t T'.heap (locs ++ L) e1.symm (by rw [← e2]; exact X'.warmed.alike) hp hb k1 k2 k3 T' rfl X'
    exact ⟨t2, st t2 a1, b1⟩
  · obtain ⟨k1, k2, k3⟩ := vx_keep h0 e1 hS hAX hf hL hF
    obtain ⟨t2, a1, b1⟩ := kx E ce q u t T'.heap (locs ++ L) e1.symm (by rw [← e2]; exact X'.warmed.alike) hp hb k1 k2 k3 (by rw [e1]; exact hce) hcv hcl T' rfl X'
    exact ⟨t2, st.trans a1, b1⟩
theorem vx_callv {S SX : Type} {post : S → Prop} {px : SX → Prop} {B : S → State → Prop} {BX : String → SX → State → Prop} {AX : Nat → Prop} (hr : vx_Run p l e R s m args below meth c H locs cells slots mc ms (F0 m pc ls st0) rest (va_Qv post B A1 a) (vx_X px BX AX) free) (hS : va_S A0 H0 H locs) (hA : ∀ q, q < H.size → A1 q → A0 q) (hf : ∀ q, free q → A0 q) (hAX : ∀ q, q < H.size → AX q → A0 q)
    (kx : ∀ (E : String) (ce : Cell) (q9 : Addr) (u : SX) (t : State) (H1 : Heap) (locs1 : List Loc), t.heap = H1 → s.vm.Alike t.vm → px u → BX E u t → H.size ≤ H1.size → (∀ q : Nat, q < H.size → ¬ AX q → H1[q]? = H[q]?) → va_S A0 H0 H1 locs1 → H1[q9]? = some ce → ce.vm = .none → s.vm.findClass E = some ce.cls → vx_W p l e R s m args below meth c H1 locs1 (cells + mc) (slots + ms) Q (F0 m pc ls rest) q9)
    (kk : ∀ (u : S) (t : State) (H1 : Heap) (locs1 : List Loc), t.heap = H1 → s.vm.Alike t.vm → post u → B u t → H.size ≤ H1.size → (∀ q : Nat, q < H.size → ¬ A1 q → H1[q]? = H[q]?) → va_S A0 H0 H1 locs1 → W p l e R s m args below meth c H1 locs1 (cells + mc) (slots + ms) Q (F0 m (pc + 3) ls (rest))) : W p l e R s m args below meth c H locs cells slots Q (F0 m pc ls st0) := by
  intro T hT X
  rcases hr T hT X with ⟨v, st₀, t, T', L, h0, X', hL, e1, e2, ⟨⟨u, hv, hp, hb⟩, hF⟩, st⟩ | ⟨q, st₀, t, T', L, E, ce, h0, X', hL, e1, e2, ⟨u, hp, hb, hF⟩, hce, hcv, hcl, st⟩
  · cases hv
    obtain ⟨k1, k2, k3⟩ := vx_keep h0 e1 hS hA hf hL hF
    obtain ⟨t2, a1, b1⟩ := kk u t T'.heap (locs ++ L) e1.symm (by rw [← e2]; exact X'.warmed.alike) hp hb k1 k2 k3 T' rfl X'
    exact ⟨t2, st t2 a1, b1⟩
  · obtain ⟨k1, k2, k3⟩ := vx_keep h0 e1 hS hAX hf hL hF
    obtain ⟨t2, a1, b1⟩ := kx E ce q u t T'.heap (locs ++ L) e1.symm (by rw [← e2]; exact X'.warmed.alike) hp hb k1 k2 k3 (by rw [e1]; exact hce) hcv hcl T' rfl X'
    exact ⟨t2, st.trans a1, b1⟩
/-- caught by the row x of this method's table; the rows ahead don't take it -/
theorem vx_catch {own name : String} {E : String} {ce : Cell} {q : Addr} (hown : s.vm.findClass own = some m.cls) (pre : List ExceptionTableEntry) (x : ExceptionTableEntry) (suf : List ExceptionTableEntry) (hsplit : c.exceptionTable.toList = pre ++ x :: suf)
    (hpass : ∀ z ∈ pre, covers z pc = false ∨ (z.catchType ≠ 0 ∧ ∃ nm : String, (Cond.classLink own z.catchType nm).before args s = true ∧ va_Nc E nm s)) (hx : covers x pc = true) (h0 : x.catchType ≠ 0)
    (hlink : (Cond.classLink own x.catchType name).before args s = true) (hcast : (Cond.castable E name).before args s = true) (hcell : H[q]? = some ce) (hv : ce.vm = .none) (hcl : s.vm.findClass E = some ce.cls)
    (kk : W p l e R s m args below meth c H locs cells slots Q (F0 m x.handlerPc ls [.ref q])) : vx_W p l e R s m args below meth c H locs cells slots Q (F0 m pc ls rest) q := by
  intro T hT X
  have hpl : e.platform.magicAccessors = ({} : Platform).magicAccessors := by rw [X.admits.platform]
  obtain ⟨c3, c4, hc3, hc4, hasg⟩ := Cond.castable_spec hcast
  cases Option.some.inj (hc3.symm.trans hcl)
  obtain ⟨c5, hc5, hcl5⟩ := Cond.classLink_spec hown hlink e.platform hpl
  cases Option.some.inj (hc4.symm.trans hc5)
  obtain ⟨vm', X', st⟩ := Jvm.Stand.thenCaughtThrough X q (g := F0 m pc ls rest) rfl (Steps.refl _) (by rw [hT]; exact hcell) (by rw [hv]; rfl) (by obtain ⟨k9, h9, -⟩ := Vm.findClass_spec hcl; exact ⟨k9, h9⟩) pre x suf hsplit
    (fun z hz => by
      rcases hpass z hz with h | ⟨hz0, nm, hl1, hn1⟩
      · exact Or.inl h
      · obtain ⟨c6, hc6, hcl6⟩ := Cond.classLink_spec hown hl1 e.platform hpl
        obtain ⟨a8, b8, h1, h2, h3⟩ := hn1
        cases Option.some.inj (h1.symm.trans hcl)
        cases Option.some.inj (h2.symm.trans hc6)
        exact Or.inr ⟨hz0, _, hcl6, h3⟩) hx (Or.inr ⟨h0, c4, hcl5, hasg⟩)
  obtain ⟨t, a1, b1⟩ := kk (T.setVm vm') hT X'
  exact ⟨t, st.trans a1, b1⟩
end Rows
section Ends
variable {p : Program} {l : Launch} {e : Env} {R : Room} {s : State} {m : MethodId} {args : Array Value} {below : List Frame} {meth : Method} {c : Code} {H : Heap} {locs : List Loc} {cells slots : Nat} {Q : State → Prop}
variable {mc ms : Nat} {free : Addr → Prop} {A0 A1 : Nat → Prop} {H0 : Heap} {a : Array Value} {ls : Array Slot} {st0 rest : List Value}
variable {Qc : Array Value → State → Outcome → State → Prop} {XC : String → State → State → Prop}
/-- what a body that may throw owes at its end -/
def vx_MQ (below : List Frame) (Qc : Array Value → State → Outcome → State → Prop) (XC : String → State → State → Prop) (a : Array Value) (s : State) (mc ms : Nat) (free : Addr → Prop) : State → Prop := fun t =>
  ∃ o, t.status = .running ∧ Ended t below o ∧ vx_Q Qc XC mc ms free a s o t
theorem vx_ret {g : JFrame} {mc ms : Nat} (k : W p l e R s m args below meth c H locs cells slots (MQ below Qc args s mc ms free) g) : W p l e R s m args below meth c H locs cells slots (vx_MQ below Qc XC args s mc ms free) g := by
  intro T hT X
  obtain ⟨t, a1, o, b1, b2, b3, b4⟩ := k T hT X
  exact ⟨t, a1, o, b1, b2, Or.inl ⟨b3, b4⟩⟩
/-- not caught here: it goes on to the caller -/
theorem vx_widen {g : JFrame} {q : Addr} {k n : Nat} (h1 : cells ≤ k) (h2 : slots ≤ n) (kk : vx_W p l e R s m args below meth c H locs k n Q g q) : vx_W p l e R s m args below meth c H locs cells slots Q g q := fun T hT X => kk T hT (stand_widen X h1 h2)
theorem vx_out {pc : Nat} {E : String} {ce : Cell} {q : Addr} {mc ms : Nat} (hout : ∀ x ∈ c.exceptionTable.toList, covers x pc = false) (hlocks : meth.locks = false) (hcell : H[q]? = some ce) (hv : ce.vm = .none) (hcl : s.vm.findClass E = some ce.cls)
    (hx : ∀ t : State, t.heap = H → s.vm.Alike t.vm → XC E s t) (hf : ∀ z ∈ locs, free z.base) (hc : cells ≤ mc) (hs : slots ≤ ms) :
    vx_W p l e R s m args below meth c H locs cells slots (vx_MQ below Qc XC args s mc ms free) (F0 m pc ls rest) q := by
  intro T hT X
  obtain ⟨st1, hrun, hend, hW, hsm⟩ := X.leaveThrown q (g := F0 m pc ls rest) rfl rfl rfl hout hlocks
  have hcell9 : (T.setFrames (.throwing q :: below)).heap[q]? = some ce := by
    show T.heap[q]? = some ce
    rw [hT]; exact hcell
  exact ⟨_, st1, .threw q, hrun, hend, Or.inr ⟨q, rfl, E, ce, locs, hx _ hT hW.alike, hcell9, hv, hcl, hW, hsm.mono hc hs, hf⟩⟩
theorem vx_frame {U : State} {k n : Nat} (h : s.sameButNew ({ U with vm := s.vm } : State) locs k n) : s.heap.size ≤ U.heap.size ∧ ∀ q : Nat, q < s.heap.size → (∀ z ∈ locs, z.base ≠ q) → U.heap[q]? = s.heap[q]? := by
  obtain ⟨-, h2, -, -, -, h6⟩ := h
  refine ⟨h2, fun q hq hz => ?_⟩
  obtain ⟨c9, e1, e2, e3, e4⟩ := h6 q _ (Array.getElem?_eq_getElem hq)
  have hs : c9.slots = (s.heap[q]).slots := Array.ext_getElem? fun i => e4 i fun hm => hz _ hm rfl
  have h9 : c9 = s.heap[q] := by
    rw [hs] at e2
    exact e2
  have e5 : U.heap[q]? = some c9 := e1
  rw [e5, h9, Array.getElem?_eq_getElem hq]
/-- the words of a throw but the four that speak of the heap -/
def vx_no (w : Cond) : Bool := decide (w ≠ .isRef (.static Bundle.tN "UNASSIGNED_STACK" Bundle.steD)) && decide (w ≠ .isRef (.static Bundle.tN "SUPPRESSED_SENTINEL" Bundle.listD)) && decide (w ≠ .laysStatic Bundle.tN "UNASSIGNED_STACK" Bundle.steD) && decide (w ≠ .laysStatic Bundle.tN "SUPPRESSED_SENTINEL" Bundle.listD)
def vx_at0 (own : String) (ic : Nat) (X : String) (names : List String) : List Cond := (Bundle.ownAtoms0 own ic X names).filter vx_no
def vx_atS (own : String) (ic : Nat) (X : String) (names : List String) : List Cond := (Bundle.ownAtoms own ic X names).filter vx_no
/-- a word that the tables alone decide, or a good one -/
def vx_ot (w : Cond) : Bool := w.onTables || goodWord w
theorem vx_ot_at {args a' : Array Value} {s U : State} {w : Cond} (hW : s.WarmedH U.vm) (hvm : s.vm = U.vm) (hg : vx_ot w = true) (h : w.before args s = true) : w.before a' U = true := by
  simp only [vx_ot, Bool.or_eq_true] at hg
  rcases hg with hg | hg
  · exact va_tabs hg hvm h
  · exact word_at hW (good_of_word hg) h
/-- a list's words: the good ones out of the method's own list, the others by premises of their own -/
theorem vx_hat {args : Array Value} {s : State} {L B : List Cond} (h1 : ∀ w ∈ L.filter goodWord, w.before args s = true) (h2 : ∀ w ∈ L.filter (fun w => !goodWord w), w ∈ B) (h3 : ∀ w ∈ B, w.before args s = true) : ∀ w ∈ L, w.before args s = true := by
  intro w hw
  by_cases g : goodWord w = true
  · exact h1 w (List.mem_filter.mpr ⟨hw, g⟩)
  · refine h3 w (h2 w (List.mem_filter.mpr ⟨hw, ?_⟩))
    show (!goodWord w) = true
    cases hgw : goodWord w
    · rfl
    · exact absurd hgw g
theorem vx_c {args : Array Value} {s : State} {w : Cond} {B : List Cond} (h : w.before args s = true) (t : ∀ w ∈ B, w.before args s = true) : ∀ w' ∈ w :: B, w'.before args s = true := fun w' h' => (List.mem_cons.mp h').elim (fun e => by rw [e]; exact h) (t w')
theorem vx_n {args : Array Value} {s : State} : ∀ w ∈ ([] : List Cond), w.before args s = true := fun _ h => nomatch h
theorem vx_own {args : Array Value} {s : State} {L : List Cond} (h1 : ∀ w ∈ L.filter vx_no, w.before args s = true)
    (hU : (Cond.isRef (.static Bundle.tN "UNASSIGNED_STACK" Bundle.steD)).before args s = true) (hN : (Cond.isRef (.static Bundle.tN "SUPPRESSED_SENTINEL" Bundle.listD)).before args s = true)
    (lU : (Cond.laysStatic Bundle.tN "UNASSIGNED_STACK" Bundle.steD).before args s = true) (lN : (Cond.laysStatic Bundle.tN "SUPPRESSED_SENTINEL" Bundle.listD).before args s = true) : ∀ w ∈ L, w.before args s = true := by
  intro w hw
  by_cases e1 : w = .isRef (.static Bundle.tN "UNASSIGNED_STACK" Bundle.steD)
  · rw [e1]; exact hU
  · by_cases e2 : w = .isRef (.static Bundle.tN "SUPPRESSED_SENTINEL" Bundle.listD)
    · rw [e2]; exact hN
    · by_cases e3 : w = .laysStatic Bundle.tN "UNASSIGNED_STACK" Bundle.steD
      · rw [e3]; exact lU
      · by_cases e4 : w = .laysStatic Bundle.tN "SUPPRESSED_SENTINEL" Bundle.listD
        · rw [e4]; exact lN
        · exact h1 w (List.mem_filter.mpr ⟨hw, by unfold vx_no; rw [decide_eq_true e1, decide_eq_true e2, decide_eq_true e3, decide_eq_true e4]; rfl⟩)
/-- where a static field lies, its class's statics cell in H -/
def vx_L (C n d : String) (A : Nat → Prop) (U : State) (H : Heap) : Prop := ∃ (c : ClassId) (k : Class) (i : Nat) (f : Field) (a : Nat) (cell : Cell), U.vm.findClass C = some c ∧ U.fieldFound? C n d = some (c, k, i, f) ∧ f.isStatic = true ∧ k.statics = some a ∧ H[a]? = some cell ∧ cell.vm.isStatics = true ∧ cell.cls = c ∧ f.slot < cell.slots.size ∧ k.staticTypes[f.slot]? = some f.type ∧ ¬ A a
theorem vx_L.moved {C n d : String} {A : Nat → Prop} {u U : State} {H : Heap} (hvm : u.vm.Alike U.vm) (h : vx_L C n d A u H) : vx_L C n d A U H := by
  obtain ⟨c, k, i, f, a, cell, h1, h2, h3, h4, h5, h6, h7, h8, h9, h10⟩ := h
  obtain ⟨k', hi', he⟩ := State.fieldFound?_setVm hvm h2
  exact ⟨c, k', i, f, a, cell, by rw [hvm.findClass]; exact h1, hi', h3, by rw [he]; exact h4, h5, h6, h7, h8, by rw [he]; exact h9, h10⟩
theorem vx_L.kept {C n d : String} {A : Nat → Prop} {U : State} {H H1 : Heap} (h : vx_L C n d A U H) (hq : ∀ a : Nat, a < H.size → ¬ A a → H1[a]? = H[a]?) : vx_L C n d A U H1 := by
  obtain ⟨c, k, i, f, a, cell, h1, h2, h3, h4, h5, h6, h7, h8, h9, h10⟩ := h
  exact ⟨c, k, i, f, a, cell, h1, h2, h3, h4, by rw [hq a (Array.getElem?_eq_some_iff.mp h5).1 h10]; exact h5, h6, h7, h8, h9, h10⟩
theorem vx_L.narrow {C n d : String} {A B : Nat → Prop} {U : State} {H : Heap} (h : vx_L C n d A U H) (hAB : ∀ q, B q → A q) : vx_L C n d B U H := by
  obtain ⟨c, k, i, f, a, cell, h1, h2, h3, h4, h5, h6, h7, h8, h9, h10⟩ := h
  exact ⟨c, k, i, f, a, cell, h1, h2, h3, h4, h5, h6, h7, h8, h9, fun z => h10 (hAB _ z)⟩
theorem vx_L.word {C n d : String} {A : Nat → Prop} {s : State} {args : Array Value} (h : vx_L C n d A s s.heap) : (Cond.laysStatic C n d).before args s = true := by
  obtain ⟨c, k, i, f, a, cell, h1, h2, h3, h4, h5, h6, h7, h8, h9, -⟩ := h
  show (Cond.laysStatic C n d).holds args s none s [] = true
  exact Cond.laysStatic_of h1 h2 h3 h4 h5 h6 h7 h8 h9
/-- .. and what it holds: null or some reference -/
def vx_Zq (C n d : String) (A : Nat → Prop) (U : State) (H : Heap) : Prop := va_Zq C n d A U H ∧ vx_L C n d A U H
theorem vx_Zq.moved {C n d : String} {A : Nat → Prop} {u U : State} {H : Heap} (hvm : u.vm.Alike U.vm) (h : vx_Zq C n d A u H) : vx_Zq C n d A U H := ⟨va_Zq.moved hvm h.1, vx_L.moved hvm h.2⟩
theorem vx_Zq.kept {C n d : String} {A : Nat → Prop} {U : State} {H H1 : Heap} (h : vx_Zq C n d A U H) (hq : ∀ a : Nat, a < H.size → ¬ A a → H1[a]? = H[a]?) : vx_Zq C n d A U H1 := ⟨va_Zq.kept h.1 hq, vx_L.kept h.2 hq⟩
theorem vx_Zq.narrow {C n d : String} {A B : Nat → Prop} {U : State} {H : Heap} (h : vx_Zq C n d A U H) (hAB : ∀ q, B q → A q) : vx_Zq C n d B U H := ⟨va_Zq.narrow h.1 hAB, vx_L.narrow h.2 hAB⟩
theorem vx_Zqof {args : Array Value} {s : State} {C n d : String} {A : Nat → Prop} (hl : (Cond.laysStatic C n d).before args s = true) (hini : (Cond.initialized C).before args s = true) (h : (Cond.isRef (.static C n d)).before args s = true) (hA : ∀ a : Nat, a < s.heap.size → ¬ A a) : vx_Zq C n d A s s.heap := by
  refine ⟨va_Zqof hl hini h hA, ?_⟩
  obtain ⟨c, k, i, f, a, cell, h1, h2, h3, h4, h5, h6, h7, h8, h9⟩ := Cond.laysStatic_spec hl
  exact ⟨c, k, i, f, a, cell, h1, h2, h3, h4, h5, h6, h7, h8, h9, hA a (Array.getElem?_eq_some_iff.mp h5).1⟩
theorem vx_isRef {C n d : String} {v : Value} {A : Nat → Prop} {s : State} {args : Array Value} (h : va_Z C n d v A s s.heap) (hv : v.isRef = true) : (Cond.isRef (.static C n d)).before args s = true := by
  obtain ⟨cf, kf, fi, f, a, cell, h1, h2, h3, h4, h5, h6, h7, -⟩ := h
  have he : (Term.static C n d).eval args s none [] s = some v := by
    simp [Term.eval, State.fieldNamed?, h1, h2, h4, h5, h6, h7]
  simp only [Cond.before, Cond.holds, Cond.value, he]
  cases v <;> simp_all [Value.isRef]
theorem vx_isRefq {C n d : String} {A : Nat → Prop} {s : State} {args : Array Value} (h : va_Zq C n d A s s.heap) : (Cond.isRef (.static C n d)).before args s = true := by
  rcases h with h | ⟨t, h⟩
  · exact vx_isRef h rfl
  · exact vx_isRef h rfl
/-- the same frame, seen from here: as if the method were called anew in this heap -/
theorem vx_rebase {T : State} (X : Stand p l e R s m args below meth c T locs cells slots) {R' : Room} (hf : R'.frames ≤ R.frames) (hl : R'.locals ≤ R.locals) (hc : cells + R'.cells ≤ R.cells) (hs : slots + R'.slots ≤ R.slots) :
    Stand p l e R' ((T.setVm s.vm).setFrames (.invoking m args :: below)) m args below meth c T [] 0 0 := by
  have htop : (T.setVm s.vm).topJava?.isSome := X.here.top
  have hF : ((T.setVm s.vm).setFrames (.invoking m args :: below)).frames = .invoking m args :: below := State.frames_setFrames _ (State.cur_lt_of_top htop)
  obtain ⟨g₀, hg0⟩ := Option.isSome_iff_exists.mp htop
  obtain ⟨r, hr⟩ := State.topJava?_eq_some.mp hg0
  have hl9 : e.platform.stackLimits (T.setVm s.vm).me = e.platform.stackLimits s.me := X.limits
  have hb9 : (T.setVm s.vm).me.stackBytes = s.me.stackBytes := X.bytes
  refine ⟨X.admits, X.cas, X.clock, hF, ?_, X.hears, X.method, X.code, X.here, X.tail, X.warmed, ?_, ?_, ?_⟩
  · have h := X.room
    have hU : ((T.setVm s.vm).setFrames (.invoking m args :: below)).localsInUse = s.localsInUse := by
      rw [State.localsInUse_invoking hF (meth := meth) (c := c) X.method X.code, State.localsInUse_invoking X.frames X.method X.code]
    simp only [State.hasRoom, Bool.and_eq_true, decide_eq_true_eq] at h ⊢
    obtain ⟨⟨⟨⟨h1, h2, h3, h4, h5, h6⟩, h7⟩, h8⟩, h9⟩ := h
    rw [X.frames, List.length_cons] at h2 h3
    have q1 := X.heapSize
    have q2 := X.used
    simp only [hF, hU, List.length_cons, State.stackLimits_setFrames, State.stackBytes_setFrames, hl9, hb9]
    refine ⟨⟨⟨⟨by omega, by omega, by omega, by omega, by omega, h6⟩, ?_⟩, ?_⟩, X.book⟩
    · show T.heap.size + R'.cells ≤ e.platform.maxCells
      omega
    · show T.slotsUsed + R'.slots ≤ e.platform.maxSlots
      omega
  · rw [State.stackLimits_setFrames]; rfl
  · rw [State.stackBytes_setFrames]; rfl
  · refine ⟨?_, Nat.le_refl _, Nat.le_refl _, ?_, ?_, fun a c9 h9 => ⟨c9, h9, rfl, rfl, fun _ _ => rfl⟩⟩
    · obtain ⟨t, ht, -⟩ := State.frames_cons hr
      show T.setVm s.vm = { ((T.setVm s.vm).setFrames (.invoking m args :: below)).setFrames (T.setVm s.vm).frames with heap := T.heap, slotsUsed := T.slotsUsed }
      rw [State.setFrames_setFrames, State.setFrames_self ht]
      rfl
    · show T.slotsUsed = T.slotsUsed + ((T.heap.toList.drop T.heap.size).map (·.slots.size)).sum
      rw [List.drop_eq_nil_of_le (Nat.le_of_eq Array.length_toList)]
      rfl
    · show ((T.heap.toList.drop T.heap.size).map (·.slots.size)).sum ≤ 0
      rw [List.drop_eq_nil_of_le (Nat.le_of_eq Array.length_toList)]
      exact Nat.le_refl _
/-- 'throw new E()': new; dup; invokespecial; athrow -/
theorem vx_throw0 {cc : ByteArray} {pc : Nat} (hexec : p.tables.exec = Jvm.exec) (hb : c.code = cc) (hl : l.stackTraces = false) {own cls : String} {names : List String} {ik ic mc ms : Nat} {A : Nat → Prop}
    (hown : s.vm.findClass own = some m.cls) (hcls : Bundle.fit cls = true) (hnames : ∀ n ∈ names, Bundle.fit n = true)
    (hk : (Cond.classLink own ik cls).before args s = true) (hini : (Cond.initialized cls).before args s = true) (hat : ∀ w ∈ vx_at0 own ic cls names, w.before args s = true)
    (hgood : ∀ w ∈ Cond.classLink own ik cls :: Cond.initialized cls :: vx_at0 own ic cls names, vx_ot w = true)
    (hU : vx_Zq Bundle.tN "UNASSIGNED_STACK" Bundle.steD A s s.heap) (hN : vx_Zq Bundle.tN "SUPPRESSED_SENTINEL" Bundle.listD A s s.heap) (hS : va_S A s.heap H locs) (hsize : ls.size = c.maxLocals)
    (d0 : decode cc pc = .ok (.new ik, 3)) (d3 : decode cc (pc + 3) = .ok (.dup, 1)) (d4 : decode cc (pc + 4) = .ok (.invokespecial ic, 3)) (d7 : decode cc (pc + 7) = .ok (.athrow, 1))
    (hout : ∀ x ∈ c.exceptionTable.toList, covers x (pc + 7) = false)
    (hRframes : names.length + 3 < R.frames) (hRlocals : (rest.map fun v => v.category).sum + (13 * (names.length + 1) + 42) ≤ R.locals) (hRcells : cells + 1 ≤ R.cells) (hRslots : slots + 6 ≤ R.slots) (hlocks : meth.locks = false)
    (hx : ∀ t : State, s.vm.Alike t.vm → H.size ≤ t.heap.size → (∀ q : Nat, q < H.size → t.heap[q]? = H[q]?) → XC cls s t)
    (hf : ∀ z ∈ locs, free z.base) (hc : cells + 1 ≤ mc) (hs : slots + 6 ≤ ms) :
    W p l e R s m args below meth c H locs cells slots (vx_MQ below Qc XC args s mc ms free) (F0 m pc ls rest) := by
  intro T hT X
  have htr : e.platform.stackTraces = false := (show e.platform.stackTraces = l.stackTraces by rw [X.admits.platform]).trans hl
  have Y := vx_rebase X (R' := { frames := R.frames, locals := R.locals, cells := 1, slots := 6 }) (Nat.le_refl _) (Nat.le_refl _) hRcells hRslots
  obtain ⟨s', hA⟩ : ∃ z, z = (T.setVm s.vm).setFrames (.invoking m args :: below) := ⟨_, rfl⟩
  rw [← hA] at Y
  have hvm : s'.vm = s.vm := by rw [hA]; rfl
  have hhp : s'.heap = H := by rw [hA]; exact hT
  have hW0 : s.WarmedH s'.vm := by rw [hvm]; exact State.WarmedH.refl s
  have hat' : ∀ w ∈ vx_at0 own ic cls names, w.before args s' = true := fun w hw => vx_ot_at hW0 hvm.symm (hgood w (List.mem_cons_of_mem _ (List.mem_cons_of_mem _ hw))) (hat w hw)
  have hk' : (Cond.classLink own ik cls).before args s' = true := vx_ot_at hW0 hvm.symm (hgood _ List.mem_cons_self) hk
  have hini' : (Cond.initialized cls).before args s' = true := vx_ot_at hW0 hvm.symm (hgood _ (List.mem_cons_of_mem _ List.mem_cons_self)) hini
  have hU' : vx_Zq Bundle.tN "UNASSIGNED_STACK" Bundle.steD A s' s'.heap := by rw [hhp]; exact vx_Zq.moved hW0.alike (hU.kept hS.2.1)
  have hN' : vx_Zq Bundle.tN "SUPPRESSED_SENTINEL" Bundle.listD A s' s'.heap := by rw [hhp]; exact vx_Zq.moved hW0.alike (hN.kept hS.2.1)
  have h : ∀ w ∈ Bundle.ownAtoms0 own ic cls names, w.before args s' = true := vx_own hat' (vx_isRefq hU'.1) (vx_isRefq hN'.1) hU'.2.word hN'.2.word
  have hown' : s'.vm.findClass own = some m.cls := by rw [hvm]; exact hown
  have hins : (Cond.instantiable cls 6).before args s' = true := h _ (by simp [Bundle.ownAtoms0])
  obtain ⟨vm₁, cX, kX, hfX, hkX, -, -, X₁, st1⟩ := Y.newCold hexec (own := own) (C := cls) (index := ik) (n := 6) hown' hk' hins hini'
    (g := F0 m pc ls rest) rfl (by rw [hb]; exact d0) (Nat.le_refl _) (Nat.le_refl _)
  generalize hT1 : (T.setVm vm₁).pushCell { cls := cX, slots := kX.instanceTypes.map defaultValue, vm := .none } = T1 at X₁ st1
  have hcat : (Value.ref T.heap.size).category = 1 := rfl
  have hcellA : T1.heap[T.heap.size]? = some (freshCell cX kX) := by rw [← hT1]; exact State.heap_pushCell_size _ _
  have d3' : decode c.code (pc + 3) = .ok (.dup, 1) := by rw [hb]; exact d3
  obtain ⟨U, hsteps, hrun, hend, hW, hsame, ce, hce, hO⟩ := X₁.ctorThrow0 hexec htr (own := own) (cls := cls) (names := names) (ic := ic) hown' hcls hnames h (fun x hx => nomatch hx) hfX hkX hcellA (by rw [hhp, hT]; exact Nat.le_refl _)
    (g := { method := m, pc := pc + 4, locals := ls, stack := .ref T.heap.size :: .ref T.heap.size :: rest, locked := none }) rfl hsize rfl rfl (rest := rest) rfl
    (by rw [hb]; exact d4) (by rw [hb]; exact d7) hout hRframes (by simp only [List.map_cons, List.sum_cons, hcat]; omega) hlocks
  obtain ⟨f1, f2⟩ := vx_frame hsame
  rw [hhp] at f1 f2
  have hWs : s.WarmedH U.vm := State.WarmedH.trans hW0 hW
  have hcl : s.vm.findClass cls = some ce.cls := by
    have h9 := hO.cls
    rw [hvm] at h9
    exact h9
  have hall : s.sameButNew ({ U with vm := s.vm } : State) locs mc ms := by
    subst hA
    obtain ⟨e1, e2⟩ := hsame
    rw [State.setFrames_setFrames] at e1
    have h2 : (T.setVm s.vm).sameButNew ({ U with vm := s.vm } : State) [] (0 + 1) (0 + 6) := ⟨e1, e2⟩
    have h3 := X.same.trans h2
    rw [List.append_nil] at h3
    exact h3.mono hc hs
  refine ⟨U, ?_, .threw T.heap.size, hrun, hend, Or.inr ⟨T.heap.size, rfl, cls, ce, locs, hx U hWs.alike f1 (fun q hq => f2 q hq (fun z hz => nomatch hz)), hce, hO.vm, hcl, hWs, hall, hf⟩⟩
  refine st1 _ ?_
  show Steps p.tables e below (T1.setTop { method := m, pc := pc + 3, locals := ls, stack := .ref T.heap.size :: rest, locked := none }) _
  jvm_step X₁.here [X₁.here.top, hexec, d3', Value.category]
  exact hsteps
/-- 'throw new E("text")': new; dup; ldc; invokespecial; athrow -/
theorem vx_throwS {cc : ByteArray} {pc : Nat} (hexec : p.tables.exec = Jvm.exec) (hb : c.code = cc) (hl : l.stackTraces = false) {own cls text : String} {names : List String} {ik is ic mc ms sa : Nat} {A : Nat → Prop}
    (hown : s.vm.findClass own = some m.cls) (hcls : Bundle.fit cls = true) (hnames : ∀ n ∈ names, Bundle.fit n = true)
    (hk : (Cond.classLink own ik cls).before args s = true) (hini : (Cond.initialized cls).before args s = true) (hstr : vk_R own is text sa s) (hat : ∀ w ∈ vx_atS own ic cls names, w.before args s = true)
    (hgood : ∀ w ∈ Cond.classLink own ik cls :: Cond.initialized cls :: vx_atS own ic cls names, vx_ot w = true)
    (hU : vx_Zq Bundle.tN "UNASSIGNED_STACK" Bundle.steD A s s.heap) (hN : vx_Zq Bundle.tN "SUPPRESSED_SENTINEL" Bundle.listD A s s.heap) (hS : va_S A s.heap H locs) (hsize : ls.size = c.maxLocals)
    (d0 : decode cc pc = .ok (.new ik, 3)) (d3 : decode cc (pc + 3) = .ok (.dup, 1)) (d4 : decode cc (pc + 4) = .ok (.ldc is, 2)) (d6 : decode cc (pc + 6) = .ok (.invokespecial ic, 3)) (d9 : decode cc (pc + 9) = .ok (.athrow, 1))
    (hout : ∀ x ∈ c.exceptionTable.toList, covers x (pc + 9) = false)
    (hRframes : names.length + 3 < R.frames) (hRlocals : (rest.map fun v => v.category).sum + (13 * (names.length + 1) + 43) ≤ R.locals) (hRcells : cells + 1 ≤ R.cells) (hRslots : slots + 6 ≤ R.slots) (hlocks : meth.locks = false)
    (hx : ∀ t : State, s.vm.Alike t.vm → H.size ≤ t.heap.size → (∀ q : Nat, q < H.size → t.heap[q]? = H[q]?) → XC cls s t)
    (hf : ∀ z ∈ locs, free z.base) (hc : cells + 1 ≤ mc) (hs : slots + 6 ≤ ms) :
    W p l e R s m args below meth c H locs cells slots (vx_MQ below Qc XC args s mc ms free) (F0 m pc ls rest) := by
  intro T hT X
  have htr : e.platform.stackTraces = false := (show e.platform.stackTraces = l.stackTraces by rw [X.admits.platform]).trans hl
  have Y := vx_rebase X (R' := { frames := R.frames, locals := R.locals, cells := 1, slots := 6 }) (Nat.le_refl _) (Nat.le_refl _) hRcells hRslots
  obtain ⟨s', hA⟩ : ∃ z, z = (T.setVm s.vm).setFrames (.invoking m args :: below) := ⟨_, rfl⟩
  rw [← hA] at Y
  have hvm : s'.vm = s.vm := by rw [hA]; rfl
  have hhp : s'.heap = H := by rw [hA]; exact hT
  have hW0 : s.WarmedH s'.vm := by rw [hvm]; exact State.WarmedH.refl s
  have hat' : ∀ w ∈ vx_atS own ic cls names, w.before args s' = true := fun w hw => vx_ot_at hW0 hvm.symm (hgood w (List.mem_cons_of_mem _ (List.mem_cons_of_mem _ hw))) (hat w hw)
  have hk' : (Cond.classLink own ik cls).before args s' = true := vx_ot_at hW0 hvm.symm (hgood _ List.mem_cons_self) hk
  have hini' : (Cond.initialized cls).before args s' = true := vx_ot_at hW0 hvm.symm (hgood _ (List.mem_cons_of_mem _ List.mem_cons_self)) hini
  have hU' : vx_Zq Bundle.tN "UNASSIGNED_STACK" Bundle.steD A s' s'.heap := by rw [hhp]; exact vx_Zq.moved hW0.alike (hU.kept hS.2.1)
  have hN' : vx_Zq Bundle.tN "SUPPRESSED_SENTINEL" Bundle.listD A s' s'.heap := by rw [hhp]; exact vx_Zq.moved hW0.alike (hN.kept hS.2.1)
  have h : ∀ w ∈ Bundle.ownAtoms own ic cls names, w.before args s' = true := vx_own hat' (vx_isRefq hU'.1) (vx_isRefq hN'.1) hU'.2.word hN'.2.word
  have hown' : s'.vm.findClass own = some m.cls := by rw [hvm]; exact hown
  have hins : (Cond.instantiable cls 6).before args s' = true := h _ (by simp [Bundle.ownAtoms])
  obtain ⟨vm₁, cX, kX, hfX, hkX, -, -, X₁, st1⟩ := Y.newCold hexec (own := own) (C := cls) (index := ik) (n := 6) hown' hk' hins hini'
    (g := F0 m pc ls rest) rfl (by rw [hb]; exact d0) (Nat.le_refl _) (Nat.le_refl _)
  generalize hT1 : (T.setVm vm₁).pushCell { cls := cX, slots := kX.instanceTypes.map defaultValue, vm := .none } = T1 at X₁ st1
  have hcat : (Value.ref T.heap.size).category = 1 := rfl
  have hcellA : T1.heap[T.heap.size]? = some (freshCell cX kX) := by rw [← hT1]; exact State.heap_pushCell_size _ _
  have d3' : decode c.code (pc + 3) = .ok (.dup, 1) := by rw [hb]; exact d3
  have d4' : decode c.code (pc + 4) = .ok (.ldc is, 2) := by rw [hb]; exact d4
  have hstr' : vk_R own is text sa s' := vk_R.warm hW0 hstr
  obtain ⟨U, hsteps, hrun, hend, hW, hsame, ce, hce, hO⟩ := X₁.ctorThrowS hexec htr (own := own) (cls := cls) (names := names) (ic := ic) hown' hcls hnames h (fun x hx => nomatch hx) hfX hkX hcellA (by rw [hhp, hT]; exact Nat.le_refl _) (msg := .ref sa) rfl
    (g := { method := m, pc := pc + 6, locals := ls, stack := .ref sa :: .ref T.heap.size :: .ref T.heap.size :: rest, locked := none }) rfl hsize rfl rfl (rest := rest) rfl
    (by rw [hb]; exact d6) (by rw [hb]; exact d9) hout hRframes (by simp only [List.map_cons, List.sum_cons, hcat]; omega) hlocks
  obtain ⟨f1, f2⟩ := vx_frame hsame
  rw [hhp] at f1 f2
  have hWs : s.WarmedH U.vm := State.WarmedH.trans hW0 hW
  have hcl : s.vm.findClass cls = some ce.cls := by
    have h9 := hO.cls
    rw [hvm] at h9
    exact h9
  have hall : s.sameButNew ({ U with vm := s.vm } : State) locs mc ms := by
    subst hA
    obtain ⟨e1, e2⟩ := hsame
    rw [State.setFrames_setFrames] at e1
    have h2 : (T.setVm s.vm).sameButNew ({ U with vm := s.vm } : State) [] (0 + 1) (0 + 6) := ⟨e1, e2⟩
    have h3 := X.same.trans h2
    rw [List.append_nil] at h3
    exact h3.mono hc hs
  refine ⟨U, ?_, .threw T.heap.size, hrun, hend, Or.inr ⟨T.heap.size, rfl, cls, ce, locs, hx U hWs.alike f1 (fun q hq => f2 q hq (fun z hz => nomatch hz)), hce, hO.vm, hcl, hWs, hall, hf⟩⟩
  refine st1 _ ?_
  show Steps p.tables e below (T1.setTop { method := m, pc := pc + 3, locals := ls, stack := .ref T.heap.size :: rest, locked := none }) _
  jvm_step X₁.here [X₁.here.top, hexec, d3', Value.category]
  exact X₁.ldcString hexec (own := own) (text := text) (index := is) (a := sa) hown' hstr'.1 hstr'.2
    (g := { method := m, pc := pc + 4, locals := ls, stack := .ref T.heap.size :: .ref T.heap.size :: rest, locked := none }) rfl d4' _ hsteps
/-- 'throw new E("text")', the text by a wide index -/
theorem vx_throwSW {cc : ByteArray} {pc : Nat} (hexec : p.tables.exec = Jvm.exec) (hb : c.code = cc) (hl : l.stackTraces = false) {own cls text : String} {names : List String} {ik is ic mc ms sa : Nat} {A : Nat → Prop}
    (hown : s.vm.findClass own = some m.cls) (hcls : Bundle.fit cls = true) (hnames : ∀ n ∈ names, Bundle.fit n = true)
    (hk : (Cond.classLink own ik cls).before args s = true) (hini : (Cond.initialized cls).before args s = true) (hstr : vk_R own is text sa s) (hat : ∀ w ∈ vx_atS own ic cls names, w.before args s = true)
    (hgood : ∀ w ∈ Cond.classLink own ik cls :: Cond.initialized cls :: vx_atS own ic cls names, vx_ot w = true)
    (hU : vx_Zq Bundle.tN "UNASSIGNED_STACK" Bundle.steD A s s.heap) (hN : vx_Zq Bundle.tN "SUPPRESSED_SENTINEL" Bundle.listD A s s.heap) (hS : va_S A s.heap H locs) (hsize : ls.size = c.maxLocals)
    (d0 : decode cc pc = .ok (.new ik, 3)) (d3 : decode cc (pc + 3) = .ok (.dup, 1)) (d4 : decode cc (pc + 4) = .ok (.ldc_w is, 3)) (d7 : decode cc (pc + 7) = .ok (.invokespecial ic, 3)) (d10 : decode cc (pc + 10) = .ok (.athrow, 1))
    (hout : ∀ x ∈ c.exceptionTable.toList, covers x (pc + 10) = false)
    (hRframes : names.length + 3 < R.frames) (hRlocals : (rest.map fun v => v.category).sum + (13 * (names.length + 1) + 43) ≤ R.locals) (hRcells : cells + 1 ≤ R.cells) (hRslots : slots + 6 ≤ R.slots) (hlocks : meth.locks = false)
    (hx : ∀ t : State, s.vm.Alike t.vm → H.size ≤ t.heap.size → (∀ q : Nat, q < H.size → t.heap[q]? = H[q]?) → XC cls s t)
    (hf : ∀ z ∈ locs, free z.base) (hc : cells + 1 ≤ mc) (hs : slots + 6 ≤ ms) :
    W p l e R s m args below meth c H locs cells slots (vx_MQ below Qc XC args s mc ms free) (F0 m pc ls rest) := by
  intro T hT X
  have htr : e.platform.stackTraces = false := (show e.platform.stackTraces = l.stackTraces by rw [X.admits.platform]).trans hl
  have Y := vx_rebase X (R' := { frames := R.frames, locals := R.locals, cells := 1, slots := 6 }) (Nat.le_refl _) (Nat.le_refl _) hRcells hRslots
  obtain ⟨s', hA⟩ : ∃ z, z = (T.setVm s.vm).setFrames (.invoking m args :: below) := ⟨_, rfl⟩
  rw [← hA] at Y
  have hvm : s'.vm = s.vm := by rw [hA]; rfl
  have hhp : s'.heap = H := by rw [hA]; exact hT
  have hW0 : s.WarmedH s'.vm := by rw [hvm]; exact State.WarmedH.refl s
  have hat' : ∀ w ∈ vx_atS own ic cls names, w.before args s' = true := fun w hw => vx_ot_at hW0 hvm.symm (hgood w (List.mem_cons_of_mem _ (List.mem_cons_of_mem _ hw))) (hat w hw)
  have hk' : (Cond.classLink own ik cls).before args s' = true := vx_ot_at hW0 hvm.symm (hgood _ List.mem_cons_self) hk
  have hini' : (Cond.initialized cls).before args s' = true := vx_ot_at hW0 hvm.symm (hgood _ (List.mem_cons_of_mem _ List.mem_cons_self)) hini
  have hU' : vx_Zq Bundle.tN "UNASSIGNED_STACK" Bundle.steD A s' s'.heap := by rw [hhp]; exact vx_Zq.moved hW0.alike (hU.kept hS.2.1)
  have hN' : vx_Zq Bundle.tN "SUPPRESSED_SENTINEL" Bundle.listD A s' s'.heap := by rw [hhp]; exact vx_Zq.moved hW0.alike (hN.kept hS.2.1)
  have h : ∀ w ∈ Bundle.ownAtoms own ic cls names, w.before args s' = true := vx_own hat' (vx_isRefq hU'.1) (vx_isRefq hN'.1) hU'.2.word hN'.2.word
  have hown' : s'.vm.findClass own = some m.cls := by rw [hvm]; exact hown
  have hins : (Cond.instantiable cls 6).before args s' = true := h _ (by simp [Bundle.ownAtoms])
  obtain ⟨vm₁, cX, kX, hfX, hkX, -, -, X₁, st1⟩ := Y.newCold hexec (own := own) (C := cls) (index := ik) (n := 6) hown' hk' hins hini'
    (g := F0 m pc ls rest) rfl (by rw [hb]; exact d0) (Nat.le_refl _) (Nat.le_refl _)
  generalize hT1 : (T.setVm vm₁).pushCell { cls := cX, slots := kX.instanceTypes.map defaultValue, vm := .none } = T1 at X₁ st1
  have hcat : (Value.ref T.heap.size).category = 1 := rfl
  have hcellA : T1.heap[T.heap.size]? = some (freshCell cX kX) := by rw [← hT1]; exact State.heap_pushCell_size _ _
  have d3' : decode c.code (pc + 3) = .ok (.dup, 1) := by rw [hb]; exact d3
  have d4' : decode c.code (pc + 4) = .ok (.ldc_w is, 3) := by rw [hb]; exact d4
  have hstr' : vk_R own is text sa s' := vk_R.warm hW0 hstr
  obtain ⟨U, hsteps, hrun, hend, hW, hsame, ce, hce, hO⟩ := X₁.ctorThrowS hexec htr (own := own) (cls := cls) (names := names) (ic := ic) hown' hcls hnames h (fun x hx => nomatch hx) hfX hkX hcellA (by rw [hhp, hT]; exact Nat.le_refl _) (msg := .ref sa) rfl
    (g := { method := m, pc := pc + 7, locals := ls, stack := .ref sa :: .ref T.heap.size :: .ref T.heap.size :: rest, locked := none }) rfl hsize rfl rfl (rest := rest) rfl
    (by rw [hb]; exact d7) (by rw [hb]; exact d10) hout hRframes (by simp only [List.map_cons, List.sum_cons, hcat]; omega) hlocks
  obtain ⟨f1, f2⟩ := vx_frame hsame
  rw [hhp] at f1 f2
  have hWs : s.WarmedH U.vm := State.WarmedH.trans hW0 hW
  have hcl : s.vm.findClass cls = some ce.cls := by
    have h9 := hO.cls
    rw [hvm] at h9
    exact h9
  have hall : s.sameButNew ({ U with vm := s.vm } : State) locs mc ms := by
    subst hA
    obtain ⟨e1, e2⟩ := hsame
    rw [State.setFrames_setFrames] at e1
    have h2 : (T.setVm s.vm).sameButNew ({ U with vm := s.vm } : State) [] (0 + 1) (0 + 6) := ⟨e1, e2⟩
    have h3 := X.same.trans h2
    rw [List.append_nil] at h3
    exact h3.mono hc hs
  refine ⟨U, ?_, .threw T.heap.size, hrun, hend, Or.inr ⟨T.heap.size, rfl, cls, ce, locs, hx U hWs.alike f1 (fun q hq => f2 q hq (fun z hz => nomatch hz)), hce, hO.vm, hcl, hWs, hall, hf⟩⟩
  refine st1 _ ?_
  show Steps p.tables e below (T1.setTop { method := m, pc := pc + 3, locals := ls, stack := .ref T.heap.size :: rest, locked := none }) _
  jvm_step X₁.here [X₁.here.top, hexec, d3', Value.category]
  exact X₁.ldcStringW hexec (own := own) (text := text) (index := is) (a := sa) hown' hstr'.1 hstr'.2
    (g := { method := m, pc := pc + 4, locals := ls, stack := .ref T.heap.size :: .ref T.heap.size :: rest, locked := none }) rfl d4' _ hsteps
end Ends
section Bodies
variable {l : Launch}
theorem vx_ofW {y : MethodName} {ws ws' : List Cond} {rm : Room} {Pc : Array Value → State → Prop} {Qc : Array Value → State → Outcome → State → Prop} {XC : String → State → State → Prop} {mc ms : Nat} {free : Addr → Prop} {cc : ByteArray} {maxL : Nat} {ret : Option FieldType}
    (hy : plainName y.cls = true) (hw : ws = Cond.code y cc maxL ret :: ws')
    (body : ∀ p e s m args below meth c s₁, BodyLoose p l y (headSpec ws rm) cc maxL ret e s m args below meth c s₁ → c.maxLocals = maxL → (∀ x ∈ c.exceptionTable.toList, False) → Pc args s →
      W p l e (headSpec ws rm).room s m args below meth c s.heap [] 0 0 (vx_MQ below Qc XC args s mc ms free) (entryFrame m args maxL)) : vx_Met l y ws rm Pc Qc XC mc ms free := by
  refine MetFree.of_bodyS (code := cc) (maxLocals := maxL) (ret := ret) hy ?_ ?_
  · intro args s m h hn
    obtain ⟨meth, c, h1, h2, h3, h4, h5, h6, -, -⟩ := Cond.code_spec hn (atoms_spec (ws := ws) h _ (by rw [hw]; exact List.mem_cons_self))
    exact ⟨meth, c, h1, h2, h3, h4, h5, h6⟩
  · intro p e s m args below meth c s₁ B hml hP _
    have hh0 : s₁.heap = s.heap := by rw [B.state]; rfl
    have ht : ∀ x ∈ c.exceptionTable.toList, False := by
      obtain ⟨meth9, c9, h1, h2, -, -, -, -, h7, -⟩ := Cond.code_spec B.named (atoms_spec (ws := ws) B.pre _ (by rw [hw]; exact List.mem_cons_self))
      cases Option.some.inj (h1.symm.trans B.method)
      cases Option.some.inj (h2.symm.trans (Stand.of_body B).code)
      intro x hx
      rw [Array.isEmpty_iff.mp h7] at hx
      cases hx
    obtain ⟨t, a1, o, b1, b2, b3⟩ := body p e s m args below meth c s₁ B hml ht hP s₁ hh0 (Stand.of_body B)
    exact ⟨t, o, a1, b1, b2, b3⟩
/-- the table of a body with handlers -/
theorem vx_table {p : Program} {x y : MethodName} {S : Spec} {cc bytes : ByteArray} {maxL maxL' : Nat} {ret ret' : Option FieldType} {e : Env} {s s₁ : State} {m : MethodId} {args : Array Value} {below : List Frame} {meth : Method} {c : Code} {hh : List (Nat × Nat × Nat × Nat)}
    (B : BodyLoose p l y S cc maxL ret e s m args below meth c s₁) (h : (Cond.codeWith y bytes maxL' ret' hh).before args s = true) : c.exceptionTable.toList = tableOf hh := by
  obtain ⟨m9, meth9, c9, hn9, h1, h2, -, -, h6, -⟩ := Cond.codeWith_spec h
  cases Option.some.inj (hn9.symm.trans B.named)
  cases Option.some.inj (h1.symm.trans B.method)
  cases Option.some.inj (h2.symm.trans (Stand.of_body B).code)
  rw [← h6, table_eq]
end Bodies
end VXA
/-! ===== END ===== -/
/-! ===== BEGIN a static call of a method with an exception table ===== -/
section VXS
variable {p : Program} {l : Launch} {e : Env} {R : Room} {s : State} {m : MethodId} {args : Array Value} {below : List Frame} {meth : Method} {c : Code} {T : State} {H : Heap} {locs : List Loc} {cells slots : Nat}
abbrev vx_CSW (R : Room) (s : State) (args : Array Value) (own : String) (index : Nat) (y : MethodName) (bytes : ByteArray) (maxL : Nat) (ret : Option FieldType) (hh : List (Nat × Nat × Nat × Nat)) (ws : List Cond) (rm : Room) (mc ms n : Nat) : Prop :=
  (rm.cells = mc ∧ rm.slots = ms ∧ rm.frames + 1 ≤ R.frames ∧ 8 + (maxL + 11) + rm.locals ≤ R.locals ∧ (∀ w ∈ ws, ∀ (a' : Array Value) (U : State), s.WarmedH U.vm → w.before a' U = true) ∧ Cond.codeWith y bytes maxL ret hh ∈ ws) ∧
  (Cond.codeWith y bytes maxL ret hh).before args s = true ∧ (Cond.initialized y.cls).before args s = true ∧ (y.cls ≠ "java/lang/invoke/MethodHandle" ∧ y.cls ≠ "java/lang/invoke/VarHandle") ∧
  (∀ sig, parseMethodDescriptor y.desc = some sig → n = sig.parameters.length) ∧ (Cond.methodLink own index y).before args s = true ∧ (Cond.static y).before args s = true
theorem vx_cwSW {own : String} {index maxL mc ms : Nat} {y : MethodName} {bytes : ByteArray} {ret : Option FieldType} {hh : List (Nat × Nat × Nat × Nat)} {Ts ws ws' : List Cond} {rm : Room} (n : Nat) (ht : ∀ w ∈ Ts, w.before args s = true) (hT : GoodIn Ts (va_wsS own index y ws)) (hw : ws = Cond.codeWith y bytes maxL ret hh :: ws') (hrc : rm.cells = mc) (hrs : rm.slots = ms)
    (hd : y.cls ≠ "java/lang/invoke/MethodHandle" ∧ y.cls ≠ "java/lang/invoke/VarHandle" ∧ (parseMethodDescriptor y.desc).map (fun d => d.parameters.length) = some n) (hR : rm.frames + 1 ≤ R.frames ∧ 8 + (maxL + 11) + rm.locals ≤ R.locals) :
    vx_CSW R s args own index y bytes maxL ret hh ws rm mc ms n := by
  have ok : ∀ w ∈ va_wsS own index y ws, w.before args s = true := fun w h => ht w (hT w h).1
  have hG : GoodIn Ts ws := fun w h => hT w (by unfold va_wsS; exact List.mem_append_right _ h)
  have hc : Cond.codeWith y bytes maxL ret hh ∈ ws := by rw [hw]; exact List.mem_cons_self
  refine ⟨⟨hrc, hrs, hR.1, hR.2, pay_in ht hG, hc⟩, ht _ (hG _ hc).1, ok _ (by simp [va_wsS]), ⟨hd.1, hd.2.1⟩, fun sig h => ?_, ok _ (by simp [va_wsS]), ok _ (by simp [va_wsS])⟩
  have h2 := hd.2.2
  rw [h] at h2
  exact (Option.some.inj h2).symm
theorem vx_callSW (X : Stand p l e R s m args below meth c T locs cells slots) (hexec : p.tables.exec = Jvm.exec) {own : String} {index : Nat} {y : MethodName} {bytes : ByteArray} {maxL : Nat} {ret : Option FieldType} {hh : List (Nat × Nat × Nat × Nat)}
    (hown : s.vm.findClass own = some m.cls) (hlink : (Cond.methodLink own index y).before args s = true) (hstat : (Cond.static y).before args s = true) (hinit : (Cond.initialized y.cls).before args s = true)
    (hcode : (Cond.codeWith y bytes maxL ret hh).before args s = true) (hy : y.cls ≠ "java/lang/invoke/MethodHandle" ∧ y.cls ≠ "java/lang/invoke/VarHandle")
    {W9 : Nat} {Pre : Pt → Array Value → Prop} {Post : Pt → Array Value → Option Value → Pt → Prop} (hK : Back l R p e below s args y 3 W9 Pre Post)
    {g : JFrame} (hg : g.method = m) (hsize : g.locals.size = c.maxLocals) {argsL rest : List Value} (hlen : ∀ sig, parseMethodDescriptor y.desc = some sig → argsL.length = sig.parameters.length)
    (hstack : g.stack = argsL.reverse ++ rest) (hW : 2 * g.monitorRoom + (rest.map fun v => v.category).sum ≤ W9) (hdg : decode c.code g.pc = .ok (.invokestatic index, 3))
    (hpre : ∀ vm₁, s.WarmedH vm₁ → Pre ⟨T.setVm vm₁, locs, cells, slots⟩ argsL.toArray) :
    ∃ (v : Option Value) (vm₁ : Vm) (B : Pt), s.WarmedH vm₁ ∧ Stand p l e R s m args below meth c B.U B.locs B.cells B.slots ∧ Post ⟨T.setVm vm₁, locs, cells, slots⟩ argsL.toArray v B ∧
      ∀ target, Steps p.tables e below (B.U.setTop { g with pc := g.pc + 3, stack := v.toList ++ rest }) target → Steps p.tables e below (T.setTop g) target := by
  obtain ⟨mk, methM, cM, hnamed, hmethM, -, -, -, -, -, -, hsigM⟩ := Cond.codeWith_spec hcode
  have hstatic : methM.isStatic = true := Cond.static_spec hnamed hmethM hstat
  obtain ⟨kP, hkP, -⟩ := className_of_methodNamed hnamed
  have hinitP : kP.init = .initialized := Cond.initialized_spec (findClass_of_methodNamed hnamed) hkP hinit
  obtain ⟨vm₁, X₁, hstep₁⟩ := X.invokestatic hexec hown hlink hnamed hmethM hstatic hkP hinitP hy (g := g) hg (argsL := argsL) (rest := rest) (hlen _ hsigM) hstack hdg
  obtain ⟨v, B, X', hpost, hsteps⟩ := hK m meth c ⟨T.setVm vm₁, locs, cells, slots⟩ { g with stack := rest } (.invokestatic index) mk argsL.toArray X₁ hg hsize hdg hW (X₁.named hnamed) (hpre vm₁ X₁.warmed)
  exact ⟨v, vm₁, B, X₁.warmed, X', hpost, fun target h => hstep₁ _ fun acts => by rw [doInvoke_state]; exact hsteps.trans h⟩
theorem vx_runSW {y : MethodName} {bytes cc : ByteArray} {maxL nL mc ms n index : Nat} {ret : Option FieldType} {hh : List (Nat × Nat × Nat × Nat)} {ws : List Cond} {rm : Room} {Pc : Array Value → State → Prop} {Qc : Array Value → State → Outcome → State → Prop} {free : Addr → Prop} {Ts : List Cond} {own : String} {As rest : List Value} {g : JFrame}
    (S : CallFix p m c cc nL s args Ts own) (hM : Met l y ws rm Pc Qc mc ms free) (cw : vx_CSW R s args own index y bytes maxL ret hh ws rm mc ms n) (hp : PreS s H Pc As)
    (hg : g.method = m) (hn : As.length = n) (hsize : g.locals.size = nL) (hstack : g.stack = As.reverse ++ rest) (hW : 2 * g.monitorRoom + (rest.map fun v => v.category).sum ≤ 8) (hdg : decode cc g.pc = .ok (.invokestatic index, 3)) (hf : cells + mc ≤ R.cells ∧ slots + ms ≤ R.slots) :
    va_Run p l e R s m args below meth c H locs cells slots mc ms g rest (Qc As.toArray) (free) := by
  obtain ⟨⟨hrc, hrs, hfr, hlo, hws, hcw⟩, hcode, hini, hy, hlen, hl, hstt⟩ := cw
  have hK : Back l R p e below s args y 3 8 (PreOf R mc ms Pc) (PostOf Qc mc ms free) := va_backW (hh := hh) (bytes := bytes) (maxL := maxL) (ret := ret) hM hp.1 hrc hrs hfr hlo hws hcw (fun a' U hW => word_at hW (Or.inl (by first | rfl | simp [Cond.onTables, Cond.keeps, Cond.steady])) hini)
  obtain ⟨hx, hb, hml, ho, -⟩ := S
  intro T hT X
  obtain ⟨v, vm₁, ⟨U', l2, c2, s2⟩, hW₁, X', ⟨g', mk, t, L, e1, e2, hq, h1, hL, h2, h3⟩, st⟩ := vx_callSW X hx (hh := hh) (bytes := bytes) (maxL := maxL) (ret := ret) ho hl hstt hini hcode hy hK hg (hsize.trans hml.symm) (argsL := As) (rest := rest) (fun sig h => hn.trans (hlen sig h)) hstack hW (by rw [hb]; exact hdg)
    (fun vm₁ hW₁ => ⟨hf.1, hf.2, hp.2 (T.setVm vm₁) hT hW₁⟩)
  dsimp only [Pt.U, Pt.locs, Pt.cells, Pt.slots] at X' e1 e2 h1 h2 h3 st
  subst h1; subst h2; subst h3
  exact ⟨v, (T.setVm vm₁).calling g' mk As.toArray, t, U', L, hT, X', hL, e1, e2, hq, st⟩
/-- not caught here, past rows that name other classes: it goes on to the caller -/
theorem vx_outP {p : Program} {l : Launch} {e : Env} {R : Room} {s : State} {m : MethodId} {args : Array Value} {below : List Frame} {meth : Method} {c : Code} {H : Heap} {locs : List Loc} {cells slots : Nat} {free : Addr → Prop} {ls : Array Slot} {rest : List Value} {Qc : Array Value → State → Outcome → State → Prop} {XC : String → State → State → Prop}
    {pc : Nat} {own E : String} {ce : Cell} {q : Addr} {mc ms : Nat} (hown : s.vm.findClass own = some m.cls) (hlocks : meth.locks = false)
    (hpass : ∀ z ∈ c.exceptionTable.toList, covers z pc = false ∨ (z.catchType ≠ 0 ∧ ∃ nm : String, (Cond.classLink own z.catchType nm).before args s = true ∧ va_Nc E nm s)) (hcell : H[q]? = some ce) (hv : ce.vm = .none) (hcl : s.vm.findClass E = some ce.cls)
    (hx : ∀ t : State, t.heap = H → s.vm.Alike t.vm → XC E s t) (hf : ∀ z ∈ locs, free z.base) (hc : cells ≤ mc) (hs : slots ≤ ms) :
    vx_W p l e R s m args below meth c H locs cells slots (vx_MQ below Qc XC args s mc ms free) (F0 m pc ls rest) q := by
  intro T hT X
  have hpl : e.platform.magicAccessors = ({} : Platform).magicAccessors := by rw [X.admits.platform]
  obtain ⟨vm', hW', X', st⟩ := Jvm.Stand.outThrough X hlocks q (g := F0 m pc ls rest) rfl rfl rfl (cell := ce) (by rw [hT]; exact hcell) (by rw [hv]; rfl)
    (by obtain ⟨k9, h9, -⟩ := Vm.findClass_spec hcl; exact ⟨k9, h9⟩) (fun z hz => by
      rcases hpass z hz with h | ⟨hz0, nm, hl1, hn1⟩
      · exact Or.inl h
      · obtain ⟨c6, hc6, hcl6⟩ := Cond.classLink_spec hown hl1 e.platform hpl
        obtain ⟨a8, b8, h1, h2, h3⟩ := hn1
        cases Option.some.inj (h1.symm.trans hcl)
        cases Option.some.inj (h2.symm.trans hc6)
        exact Or.inr ⟨hz0, _, hcl6, h3⟩)
  obtain ⟨g₀, hfr⟩ := X'.frames_eq
  have hcell9 : ((T.setVm vm').setFrames (.throwing q :: below)).heap[q]? = some ce := by
    show T.heap[q]? = some ce
    rw [hT]; exact hcell
  have hend : Ended ((T.setVm vm').setFrames (.throwing q :: below)) below (.threw q) := State.frames_setFrames _ (State.cur_lt_of_frames hfr)
  refine ⟨(T.setVm vm').setFrames (.throwing q :: below), ?_, .threw q, X'.here.running, hend, Or.inr ⟨q, rfl, E, ce, locs, hx _ hT (X'.ends _).1.alike, hcell9, hv, hcl, (X'.ends _).1, (X'.ends _).2.mono hc hs, hf⟩⟩
  rw [X.pushThrowing_eq]
  exact st
/-- a thing of a world lies in the heap -/
theorem vx_lt {D : va_G} {cl : List vw_C} {ws : va_W} {H1 : Heap} (h : va_P D cl ws H1) {k : Nat} {q : Nat × va_E} (hk : ws[k]? = some q) : q.1 < H1.size := (h k q hk).lt
end VXS
/-! ===== END ===== -/
/-! ===== BEGIN methods with a table of their own: called by a name, returning or throwing ===== -/
section VXH
/-! vx_backW, vx_callVX, vx_callSX, vx_callVW, vx_runVW, vx_runVX, vx_runSX, vx_ofWH follow the same proofs as their sisters above (Free/Laws.lean, Shelf42/LK1.lean); vx_outP calls Shelf42/NT130.lean (outThrough). -/
section
variable {l : Launch} {R : Room} {p : Program} {e : Env} {below : List Frame} {s : State} {sargs : Array Value} {y : MethodName} {len W9 : Nat}
theorem vx_backW {ws : List Cond} {rm : Room} {Pc : Array Value → State → Prop} {Qc : Array Value → State → Outcome → State → Prop} {XC : String → State → State → Prop} {mc ms : Nat} {free : Addr → Prop} {bytes : ByteArray} {maxL : Nat} {ret : Option FieldType} {hh : List (Nat × Nat × Nat × Nat)}
    (hM : vx_Met l y ws rm Pc Qc XC mc ms free) (hblind : FrameBlind Pc) (hrc : rm.cells = mc) (hrs : rm.slots = ms)
    (hframes : rm.frames + 1 ≤ R.frames) (hlocals : W9 + (maxL + 11) + rm.locals ≤ R.locals)
    (hws : ∀ w ∈ ws, ∀ a' U, s.WarmedH U.vm → w.before a' U = true) (hcode : Cond.codeWith y bytes maxL ret hh ∈ ws) (hinit : ∀ a' U, s.WarmedH U.vm → (Cond.initialized y.cls).before a' U = true) :
    vx_Back l R p e below s sargs y len W9 (PreOf R mc ms Pc) (PostOf Qc mc ms free) (vx_Post XC mc ms free) := by
  intro m meth c A g ig mk a X hg hsize hdg hW hn hp
  have h1 : (headSpec ws rm).pre.before a A.U = true := atoms_intro fun w hw => hws w hw _ _ X.warmed
  have h2 : (Cond.codeWith y bytes maxL ret hh).before a A.U = true := hws _ hcode _ _ X.warmed
  have h3 : (Cond.initialized y.cls).before a A.U = true := hinit _ _ X.warmed
  have h4 : A.cells + (headSpec ws rm).room.cells ≤ R.cells := by rw [show (headSpec ws rm).room.cells = mc from hrc]; exact hp.1
  have h5 : A.slots + (headSpec ws rm).room.slots ≤ R.slots := by rw [show (headSpec ws rm).room.slots = ms from hrs]; exact hp.2.1
  have hPc : Pc a (A.U.calling g mk a) := hblind _ _ _ _ hp.2.2
  obtain ⟨U, Ls, c0, s0⟩ := A
  dsimp only [Pt.U, Pt.locs, Pt.cells, Pt.slots] at h1 h2 h3 h4 h5 X hn hPc ⊢
  obtain ⟨m9, methY, cY, hn9, hmY, hcY, -, hlY, -⟩ := Cond.codeWith_spec h2
  cases Option.some.inj (hn9.symm.trans hn)
  obtain ⟨kY, hkY, -⟩ := className_of_methodNamed hn
  have hinitY : kY.init = .initialized := Cond.initialized_spec (findClass_of_methodNamed hn) hkY h3
  have h : At U g.method c below := by rw [hg]; exact X.here
  have hlocals9 : W9 + (maxL + 11) + (headSpec ws rm).room.locals ≤ R.locals := hlocals
  have happ : (headSpec ws rm).appliesLoose y e.platform (U.calling g mk a) = true :=
    Spec.appliesLoose_calling (g := g) h hdg hn hkY hinitY
      (X.room_calling (g := g) (R' := (headSpec ws rm).room) hsize hmY hcY hframes (by rw [hlY]; omega) h4 h5) h1
  obtain ⟨mid, hmid⟩ := h.above
  have hfr : (U.setTop g).frames = (.java g :: mid) ++ below := by rw [State.frames_setTop' g h.top, hmid]; rfl
  obtain ⟨o, s₂, hsteps, -, hend, hq⟩ := Steps.callFree hM p X.admits X.cas X.clock (acts := []) hfr happ hPc trivial
  have hq' : vx_Q Qc XC mc ms free a (U.calling g mk a) o s₂ := hq
  rw [State.frames_setTop' g h.top] at hend
  obtain ⟨g₀, hg0⟩ := Option.isSome_iff_exists.mp h.top
  obtain ⟨r, hr⟩ := State.topJava?_eq_some.mp hg0
  have hr' : (({ U with heap := s₂.heap, slotsUsed := s₂.slotsUsed } : State).setVm s₂.vm).frames = .java g₀ :: r := hr
  rcases hq' with ⟨hqc, L, hfe, hL⟩ | ⟨q, rfl, E, ce, L, hx, hce, hcv, hcl, hW₂, hsm, hL⟩
  · obtain ⟨⟨v, rfl⟩, hW₂, e2, q2, q3, q4, q5, q6⟩ := id hfe
    have e3 : s₂ = ({ (U.calling g mk a).setFrames s₂.frames with heap := s₂.heap, slotsUsed := s₂.slotsUsed } : State).setVm s₂.vm := by
      have : s₂ = ({ s₂ with vm := (U.calling g mk a).vm } : State).setVm s₂.vm := rfl
      rw [e2] at this
      exact this
    obtain ⟨c₂, i₂, len₂, hc₂, hd₂, hf₂⟩ := hend
    have hW' : U.WarmedH s₂.vm := hW₂
    have hcc : c₂ = c := by
      have h1 : s₂.code? g.method = U.code? g.method := by
        rw [State.code?_eq, State.code?_eq, hW'.alike.method?]
      exact Option.some.inj (hc₂.symm.trans (h1.trans h.code))
    subst hcc
    have hlen : len₂ = len := by rw [hdg] at hd₂; cases hd₂; rfl
    subst hlen
    have hs₂ : s₂ = (({ U with heap := s₂.heap, slotsUsed := s₂.slotsUsed } : State).setVm s₂.vm).setTop { g with pc := g.pc + len₂, stack := v.toList ++ g.stack } := by
      refine e3.trans ?_
      rw [hf₂, State.calling_eq h.top, State.setFrames_setFrames, State.setTop_of_frames _ hr', hr]
      rfl
    have hsame : U.sameButNew ({ U with heap := s₂.heap, slotsUsed := s₂.slotsUsed } : State) L mc ms := by
      refine ⟨?_, q2, q3, q4, q5, q6⟩
      obtain ⟨t, ht, -⟩ := State.frames_cons hr
      show ({ U with heap := s₂.heap, slotsUsed := s₂.slotsUsed } : State) = { U.setFrames U.frames with heap := s₂.heap, slotsUsed := s₂.slotsUsed }
      rw [State.setFrames_self ht]
    subst hg
    refine Or.inl ⟨v, ⟨(({ U with heap := s₂.heap, slotsUsed := s₂.slotsUsed } : State).setVm s₂.vm), Ls ++ L, c0 + mc, s0 + ms⟩,
      ⟨X.admits, X.cas, X.clock, X.frames, X.room, X.hears, X.method, X.code, (X.here.setHeapUsed s₂.heap s₂.slotsUsed).setVm hW'.alike, X.tail, State.WarmedH.trans X.warmed hW', X.limits, X.bytes, X.same.trans (hsame.setVm s.vm)⟩,
      ⟨g, mk, s₂, L, rfl, rfl, hqc, rfl, hL, rfl, rfl⟩, ?_⟩
    show Steps p.tables e below _ ((({ U with heap := s₂.heap, slotsUsed := s₂.slotsUsed } : State).setVm s₂.vm).setTop { g with pc := g.pc + len₂, stack := v.toList ++ g.stack })
    rw [← hs₂]
    exact hsteps
  · obtain ⟨e2, q2, q3, q4, q5, q6⟩ := id hsm
    have e3 : s₂ = ({ (U.calling g mk a).setFrames s₂.frames with heap := s₂.heap, slotsUsed := s₂.slotsUsed } : State).setVm s₂.vm := by
      have : s₂ = ({ s₂ with vm := (U.calling g mk a).vm } : State).setVm s₂.vm := rfl
      rw [e2] at this
      exact this
    have hf₂ : s₂.frames = .throwing q :: .java g :: U.frames.tail := hend
    have hW' : U.WarmedH s₂.vm := hW₂
    have hs₂ : s₂ = ((({ U with heap := s₂.heap, slotsUsed := s₂.slotsUsed } : State).setVm s₂.vm).setTop g).pushFrame (.throwing q) := by
      refine e3.trans ?_
      rw [hf₂, State.calling_eq h.top, State.setFrames_setFrames, State.pushFrame, State.frames_setTop _ hr', State.setTop_of_frames _ hr', State.setFrames_setFrames, hr]
      rfl
    have hsame : U.sameButNew ({ U with heap := s₂.heap, slotsUsed := s₂.slotsUsed } : State) L mc ms := by
      refine ⟨?_, q2, q3, q4, q5, q6⟩
      obtain ⟨t, ht, -⟩ := State.frames_cons hr
      show ({ U with heap := s₂.heap, slotsUsed := s₂.slotsUsed } : State) = { U.setFrames U.frames with heap := s₂.heap, slotsUsed := s₂.slotsUsed }
      rw [State.setFrames_self ht]
    subst hg
    refine Or.inr ⟨q, ⟨(({ U with heap := s₂.heap, slotsUsed := s₂.slotsUsed } : State).setVm s₂.vm), Ls ++ L, c0 + mc, s0 + ms⟩,
      ⟨X.admits, X.cas, X.clock, X.frames, X.room, X.hears, X.method, X.code, (X.here.setHeapUsed s₂.heap s₂.slotsUsed).setVm hW'.alike, X.tail, State.WarmedH.trans X.warmed hW', X.limits, X.bytes, X.same.trans (hsame.setVm s.vm)⟩,
      ⟨g, mk, s₂, L, E, ce, rfl, rfl, hx, hce, hcv, hcl, rfl, hL, rfl, rfl⟩, ?_⟩
    show Steps p.tables e below _ (((({ U with heap := s₂.heap, slotsUsed := s₂.slotsUsed } : State).setVm s₂.vm).setTop g).pushFrame (.throwing q))
    rw [← hs₂]
    exact hsteps
end
variable {p : Program} {l : Launch} {e : Env} {R : Room} {s : State} {m : MethodId} {args : Array Value} {below : List Frame} {meth : Method} {c : Code} {T : State} {H : Heap} {locs : List Loc} {cells slots : Nat}
theorem vx_callVX (X : Stand p l e R s m args below meth c T locs cells slots) (hexec : p.tables.exec = Jvm.exec) {own C : String} {index : Nat} {y : MethodName} {bytes : ByteArray} {maxL : Nat} {ret : Option FieldType} {hh : List (Nat × Nat × Nat × Nat)}
    (hown : s.vm.findClass own = some m.cls) (hlink : (Cond.methodLink own index y).before args s = true) (hinst : (Cond.instanceMethod y).before args s = true) (hsel : (Cond.selects C y y).before args s = true)
    (hcode : (Cond.codeWith y bytes maxL ret hh).before args s = true) (hy : y.cls ≠ "java/lang/invoke/MethodHandle" ∧ y.cls ≠ "java/lang/invoke/VarHandle")
    {W9 : Nat} {Pre : Pt → Array Value → Prop} {Post : Pt → Array Value → Option Value → Pt → Prop} {PostX : Pt → Array Value → Addr → Pt → Prop} (hK : vx_Back l R p e below s args y 3 W9 Pre Post PostX)
    {b : Addr} {cellB : Cell} (hcell : T.heap[b]? = some cellB) (hobj : cellB.vm.isStatics = false) (hcls : s.vm.findClass C = some cellB.cls)
    {g : JFrame} (hg : g.method = m) (hsize : g.locals.size = c.maxLocals) {argsL rest : List Value} (hlen : ∀ sig, parseMethodDescriptor y.desc = some sig → argsL.length = sig.parameters.length)
    (hstack : g.stack = argsL.reverse ++ .ref b :: rest) (hW : 2 * g.monitorRoom + (rest.map fun v => v.category).sum ≤ W9) (hdg : decode c.code g.pc = .ok (.invokevirtual index, 3))
    (hpre : ∀ vm₁, s.WarmedH vm₁ → Pre ⟨T.setVm vm₁, locs, cells, slots⟩ (Value.ref b :: argsL).toArray) :
    (∃ (v : Option Value) (vm₁ : Vm) (B : Pt), s.WarmedH vm₁ ∧ Stand p l e R s m args below meth c B.U B.locs B.cells B.slots ∧ Post ⟨T.setVm vm₁, locs, cells, slots⟩ (Value.ref b :: argsL).toArray v B ∧
      ∀ target, Steps p.tables e below (B.U.setTop { g with pc := g.pc + 3, stack := v.toList ++ rest }) target → Steps p.tables e below (T.setTop g) target) ∨
    (∃ (q : Addr) (vm₁ : Vm) (B : Pt), s.WarmedH vm₁ ∧ Stand p l e R s m args below meth c B.U B.locs B.cells B.slots ∧ PostX ⟨T.setVm vm₁, locs, cells, slots⟩ (Value.ref b :: argsL).toArray q B ∧
      Steps p.tables e below (T.setTop g) ((B.U.setTop { g with stack := rest }).pushFrame (.throwing q))) := by
  obtain ⟨mk, methM, hnamed, hmethM, hstM, habM⟩ := Cond.instanceMethod_spec hinst
  obtain ⟨m8, methM', cM, hn8, hmethM', -, -, -, -, -, -, hsigM⟩ := Cond.codeWith_spec hcode
  cases Option.some.inj (hn8.symm.trans hnamed)
  cases hmethM.symm.trans hmethM'
  obtain ⟨c2, r2, m2, q1, q2, q3, q4, kP, hkP, hkPi⟩ := Cond.selects_spec hsel
  cases hcls.symm.trans q1
  cases (State.methodFound?_of_named hnamed hy).symm.trans q2
  cases hnamed.symm.trans q3
  have hselP : selectMethod e.platform s.vm cellB.cls mk = .method mk := by rw [Launch.admits_selectMethod X.admits]; exact q4
  obtain ⟨vm₁, X₁, hstep₁⟩ := X.invokevirtual hexec hown hlink hnamed hmethM hstM hkP hkPi hy (a := b) (cell := cellB) hcell
    (fun z h => by rw [h] at hobj; cases hobj) hselP hmethM habM hkP hkPi (g := g) hg (argsL := argsL) (rest := rest) (hlen _ hsigM) hstack hdg
  rcases hK m meth c ⟨T.setVm vm₁, locs, cells, slots⟩ { g with stack := rest } (.invokevirtual index) mk (Value.ref b :: argsL).toArray X₁ hg hsize hdg hW (X₁.named hnamed) (hpre vm₁ X₁.warmed) with ⟨v, B, X', hpost, hsteps⟩ | ⟨q, B, X', hpost, hsteps⟩
  · exact Or.inl ⟨v, vm₁, B, X₁.warmed, X', hpost, fun target h => hstep₁ _ fun acts => by rw [doInvoke_state]; exact hsteps.trans h⟩
  · exact Or.inr ⟨q, vm₁, B, X₁.warmed, X', hpost, hstep₁ _ fun acts => by rw [doInvoke_state]; exact hsteps⟩
theorem vx_callSX (X : Stand p l e R s m args below meth c T locs cells slots) (hexec : p.tables.exec = Jvm.exec) {own : String} {index : Nat} {y : MethodName} {bytes : ByteArray} {maxL : Nat} {ret : Option FieldType} {hh : List (Nat × Nat × Nat × Nat)}
    (hown : s.vm.findClass own = some m.cls) (hlink : (Cond.methodLink own index y).before args s = true) (hstat : (Cond.static y).before args s = true) (hinit : (Cond.initialized y.cls).before args s = true)
    (hcode : (Cond.codeWith y bytes maxL ret hh).before args s = true) (hy : y.cls ≠ "java/lang/invoke/MethodHandle" ∧ y.cls ≠ "java/lang/invoke/VarHandle")
    {W9 : Nat} {Pre : Pt → Array Value → Prop} {Post : Pt → Array Value → Option Value → Pt → Prop} {PostX : Pt → Array Value → Addr → Pt → Prop} (hK : vx_Back l R p e below s args y 3 W9 Pre Post PostX)
    {g : JFrame} (hg : g.method = m) (hsize : g.locals.size = c.maxLocals) {argsL rest : List Value} (hlen : ∀ sig, parseMethodDescriptor y.desc = some sig → argsL.length = sig.parameters.length)
    (hstack : g.stack = argsL.reverse ++ rest) (hW : 2 * g.monitorRoom + (rest.map fun v => v.category).sum ≤ W9) (hdg : decode c.code g.pc = .ok (.invokestatic index, 3))
    (hpre : ∀ vm₁, s.WarmedH vm₁ → Pre ⟨T.setVm vm₁, locs, cells, slots⟩ argsL.toArray) :
    (∃ (v : Option Value) (vm₁ : Vm) (B : Pt), s.WarmedH vm₁ ∧ Stand p l e R s m args below meth c B.U B.locs B.cells B.slots ∧ Post ⟨T.setVm vm₁, locs, cells, slots⟩ argsL.toArray v B ∧
      ∀ target, Steps p.tables e below (B.U.setTop { g with pc := g.pc + 3, stack := v.toList ++ rest }) target → Steps p.tables e below (T.setTop g) target) ∨
    (∃ (q : Addr) (vm₁ : Vm) (B : Pt), s.WarmedH vm₁ ∧ Stand p l e R s m args below meth c B.U B.locs B.cells B.slots ∧ PostX ⟨T.setVm vm₁, locs, cells, slots⟩ argsL.toArray q B ∧
      Steps p.tables e below (T.setTop g) ((B.U.setTop { g with stack := rest }).pushFrame (.throwing q))) := by
  obtain ⟨mk, methM, cM, hnamed, hmethM, -, -, -, -, -, -, hsigM⟩ := Cond.codeWith_spec hcode
  have hstatic : methM.isStatic = true := Cond.static_spec hnamed hmethM hstat
  obtain ⟨kP, hkP, -⟩ := className_of_methodNamed hnamed
  have hinitP : kP.init = .initialized := Cond.initialized_spec (findClass_of_methodNamed hnamed) hkP hinit
  obtain ⟨vm₁, X₁, hstep₁⟩ := X.invokestatic hexec hown hlink hnamed hmethM hstatic hkP hinitP hy (g := g) hg (argsL := argsL) (rest := rest) (hlen _ hsigM) hstack hdg
  rcases hK m meth c ⟨T.setVm vm₁, locs, cells, slots⟩ { g with stack := rest } (.invokestatic index) mk argsL.toArray X₁ hg hsize hdg hW (X₁.named hnamed) (hpre vm₁ X₁.warmed) with ⟨v, B, X', hpost, hsteps⟩ | ⟨q, B, X', hpost, hsteps⟩
  · exact Or.inl ⟨v, vm₁, B, X₁.warmed, X', hpost, fun target h => hstep₁ _ fun acts => by rw [doInvoke_state]; exact hsteps.trans h⟩
  · exact Or.inr ⟨q, vm₁, B, X₁.warmed, X', hpost, hstep₁ _ fun acts => by rw [doInvoke_state]; exact hsteps⟩
theorem vx_callVW (X : Stand p l e R s m args below meth c T locs cells slots) (hexec : p.tables.exec = Jvm.exec) {own C : String} {index : Nat} {y : MethodName} {bytes : ByteArray} {maxL : Nat} {ret : Option FieldType} {hh : List (Nat × Nat × Nat × Nat)}
    (hown : s.vm.findClass own = some m.cls) (hlink : (Cond.methodLink own index y).before args s = true) (hinst : (Cond.instanceMethod y).before args s = true) (hsel : (Cond.selects C y y).before args s = true)
    (hcode : (Cond.codeWith y bytes maxL ret hh).before args s = true) (hy : y.cls ≠ "java/lang/invoke/MethodHandle" ∧ y.cls ≠ "java/lang/invoke/VarHandle")
    {W9 : Nat} {Pre : Pt → Array Value → Prop} {Post : Pt → Array Value → Option Value → Pt → Prop} (hK : Back l R p e below s args y 3 W9 Pre Post)
    {b : Addr} {cellB : Cell} (hcell : T.heap[b]? = some cellB) (hobj : cellB.vm.isStatics = false) (hcls : s.vm.findClass C = some cellB.cls)
    {g : JFrame} (hg : g.method = m) (hsize : g.locals.size = c.maxLocals) {argsL rest : List Value} (hlen : ∀ sig, parseMethodDescriptor y.desc = some sig → argsL.length = sig.parameters.length)
    (hstack : g.stack = argsL.reverse ++ .ref b :: rest) (hW : 2 * g.monitorRoom + (rest.map fun v => v.category).sum ≤ W9) (hdg : decode c.code g.pc = .ok (.invokevirtual index, 3))
    (hpre : ∀ vm₁, s.WarmedH vm₁ → Pre ⟨T.setVm vm₁, locs, cells, slots⟩ (Value.ref b :: argsL).toArray) :
    ∃ (v : Option Value) (vm₁ : Vm) (B : Pt), s.WarmedH vm₁ ∧ Stand p l e R s m args below meth c B.U B.locs B.cells B.slots ∧ Post ⟨T.setVm vm₁, locs, cells, slots⟩ (Value.ref b :: argsL).toArray v B ∧
      ∀ target, Steps p.tables e below (B.U.setTop { g with pc := g.pc + 3, stack := v.toList ++ rest }) target → Steps p.tables e below (T.setTop g) target := by
  obtain ⟨mk, methM, hnamed, hmethM, hstM, habM⟩ := Cond.instanceMethod_spec hinst
  obtain ⟨m8, methM', cM, hn8, hmethM', -, -, -, -, -, -, hsigM⟩ := Cond.codeWith_spec hcode
  cases Option.some.inj (hn8.symm.trans hnamed)
  cases hmethM.symm.trans hmethM'
  obtain ⟨c2, r2, m2, q1, q2, q3, q4, kP, hkP, hkPi⟩ := Cond.selects_spec hsel
  cases hcls.symm.trans q1
  cases (State.methodFound?_of_named hnamed hy).symm.trans q2
  cases hnamed.symm.trans q3
  have hselP : selectMethod e.platform s.vm cellB.cls mk = .method mk := by rw [Launch.admits_selectMethod X.admits]; exact q4
  obtain ⟨vm₁, X₁, hstep₁⟩ := X.invokevirtual hexec hown hlink hnamed hmethM hstM hkP hkPi hy (a := b) (cell := cellB) hcell
    (fun z h => by rw [h] at hobj; cases hobj) hselP hmethM habM hkP hkPi (g := g) hg (argsL := argsL) (rest := rest) (hlen _ hsigM) hstack hdg
  obtain ⟨v, B, X', hpost, hsteps⟩ := hK m meth c ⟨T.setVm vm₁, locs, cells, slots⟩ { g with stack := rest } (.invokevirtual index) mk (Value.ref b :: argsL).toArray X₁ hg hsize hdg hW (X₁.named hnamed) (hpre vm₁ X₁.warmed)
  exact ⟨v, vm₁, B, X₁.warmed, X', hpost, fun target h => hstep₁ _ fun acts => by rw [doInvoke_state]; exact hsteps.trans h⟩
abbrev vx_CVW (R : Room) (s : State) (args : Array Value) (own C : String) (index : Nat) (y : MethodName) (bytes : ByteArray) (maxL : Nat) (ret : Option FieldType) (hh : List (Nat × Nat × Nat × Nat)) (ws : List Cond) (rm : Room) (mc ms n : Nat) : Prop :=
  (rm.cells = mc ∧ rm.slots = ms ∧ rm.frames + 1 ≤ R.frames ∧ 8 + (maxL + 11) + rm.locals ≤ R.locals ∧ (∀ w ∈ ws, ∀ (a' : Array Value) (U : State), s.WarmedH U.vm → w.before a' U = true) ∧ Cond.codeWith y bytes maxL ret hh ∈ ws) ∧
  (Cond.codeWith y bytes maxL ret hh).before args s = true ∧ (Cond.initialized y.cls).before args s = true ∧ (y.cls ≠ "java/lang/invoke/MethodHandle" ∧ y.cls ≠ "java/lang/invoke/VarHandle") ∧
  (∀ sig, parseMethodDescriptor y.desc = some sig → n = sig.parameters.length) ∧ (Cond.methodLink own index y).before args s = true ∧ (Cond.instanceMethod y).before args s = true ∧ (Cond.selects C y y).before args s = true
theorem vx_cwVW {own C : String} {index maxL mc ms : Nat} {y : MethodName} {bytes : ByteArray} {ret : Option FieldType} {hh : List (Nat × Nat × Nat × Nat)} {Ts ws ws' : List Cond} {rm : Room} (n : Nat) (ht : ∀ w ∈ Ts, w.before args s = true) (hT : GoodIn Ts (wsV own index C y ws)) (hw : ws = Cond.codeWith y bytes maxL ret hh :: ws') (hrc : rm.cells = mc) (hrs : rm.slots = ms)
    (hd : y.cls = C ∧ y.cls ≠ "java/lang/invoke/MethodHandle" ∧ y.cls ≠ "java/lang/invoke/VarHandle" ∧ (parseMethodDescriptor y.desc).map (fun d => d.parameters.length) = some n) (hR : rm.frames + 1 ≤ R.frames ∧ 8 + (maxL + 11) + rm.locals ≤ R.locals) :
    vx_CVW R s args own C index y bytes maxL ret hh ws rm mc ms n := by
  obtain ⟨hC, hd⟩ := hd
  subst hC
  have ok : ∀ w ∈ wsV own index y.cls y ws, w.before args s = true := fun w h => ht w (hT w h).1
  have hG : GoodIn Ts ws := fun w h => hT w (by unfold wsV; exact List.mem_append_right _ h)
  have hc : Cond.codeWith y bytes maxL ret hh ∈ ws := by rw [hw]; exact List.mem_cons_self
  refine ⟨⟨hrc, hrs, hR.1, hR.2, pay_in ht hG, hc⟩, ht _ (hG _ hc).1, ok _ (by simp [wsV]), ⟨hd.1, hd.2.1⟩, fun sig h => ?_, ok _ (by simp [wsV]), ok _ (by simp [wsV]), ok _ (by simp [wsV])⟩
  have h2 := hd.2.2
  rw [h] at h2
  exact (Option.some.inj h2).symm
theorem vx_runVW {y : MethodName} {bytes cc : ByteArray} {maxL nL mc ms n index : Nat} {ret : Option FieldType} {hh : List (Nat × Nat × Nat × Nat)} {ws : List Cond} {rm : Room} {Pc : Array Value → State → Prop} {Qc : Array Value → State → Outcome → State → Prop} {free : Addr → Prop} {Ts : List Cond} {own C : String} {b : Addr} {As rest : List Value} {g : JFrame}
    (S : CallFix p m c cc nL s args Ts own) (hM : Met l y ws rm Pc Qc mc ms free) (cw : vx_CVW R s args own C index y bytes maxL ret hh ws rm mc ms n) (hp : PreV s H C b Pc As)
    (hg : g.method = m) (hn : As.length = n) (hsize : g.locals.size = nL) (hstack : g.stack = As.reverse ++ .ref b :: rest) (hW : 2 * g.monitorRoom + (rest.map fun v => v.category).sum ≤ 8) (hdg : decode cc g.pc = .ok (.invokevirtual index, 3)) (hf : cells + mc ≤ R.cells ∧ slots + ms ≤ R.slots) :
    va_Run p l e R s m args below meth c H locs cells slots mc ms g rest (Qc (Value.ref b :: As).toArray) free := by
  obtain ⟨⟨hrc, hrs, hfr, hlo, hws, hcw⟩, hcode, hini, hy, hlen, hl, hin, hse⟩ := cw
  have hK : Back l R p e below s args y 3 8 (PreOf R mc ms Pc) (PostOf Qc mc ms free) := va_backW (hh := hh) (bytes := bytes) (maxL := maxL) (ret := ret) hM hp.1 hrc hrs hfr hlo hws hcw (fun a' U hW => word_at hW (Or.inl (by first | rfl | simp [Cond.onTables, Cond.keeps, Cond.steady])) hini)
  obtain ⟨hx, hb, hml, ho, -⟩ := S
  obtain ⟨-, ⟨cellB, hcB, hoB, hclB⟩, hPc⟩ := hp
  intro T hT X
  obtain ⟨v, vm₁, ⟨U', l2, c2, s2⟩, hW₁, X', ⟨g', mk, t, L, e1, e2, hq, h1, hL, h2, h3⟩, st⟩ := vx_callVW X hx (C := C) (hh := hh) (bytes := bytes) (maxL := maxL) (ret := ret) ho hl hin hse hcode hy hK (by rw [hT]; exact hcB) hoB hclB hg (hsize.trans hml.symm) (argsL := As) (rest := rest) (fun sig h => hn.trans (hlen sig h)) hstack hW (by rw [hb]; exact hdg)
    (fun vm₁ hW₁ => ⟨hf.1, hf.2, hPc (T.setVm vm₁) hT hW₁⟩)
  dsimp only [Pt.U, Pt.locs, Pt.cells, Pt.slots] at X' e1 e2 h1 h2 h3 st
  subst h1; subst h2; subst h3
  exact ⟨v, (T.setVm vm₁).calling g' mk (Value.ref b :: As).toArray, t, U', L, hT, X', hL, e1, e2, hq, st⟩
section
variable {y : MethodName} {bytes cc : ByteArray} {maxL nL mc ms n index : Nat} {ret : Option FieldType} {ws : List Cond} {rm : Room} {Pc : Array Value → State → Prop} {Qc : Array Value → State → Outcome → State → Prop} {XC : String → State → State → Prop} {free : Addr → Prop} {Ts : List Cond} {own C : String} {b : Addr} {As rest : List Value} {g : JFrame}
theorem vx_runVX {hh : List (Nat × Nat × Nat × Nat)} (S : CallFix p m c cc nL s args Ts own) (hM : vx_Met l y ws rm Pc Qc XC mc ms free) (cw : vx_CVW R s args own C index y bytes maxL ret hh ws rm mc ms n) (hp : PreV s H C b Pc As)
    (hg : g.method = m) (hn : As.length = n) (hsize : g.locals.size = nL) (hstack : g.stack = As.reverse ++ .ref b :: rest) (hW : 2 * g.monitorRoom + (rest.map fun v => v.category).sum ≤ 8) (hdg : decode cc g.pc = .ok (.invokevirtual index, 3)) (hf : cells + mc ≤ R.cells ∧ slots + ms ≤ R.slots) :
    vx_Run p l e R s m args below meth c H locs cells slots mc ms g rest (Qc (Value.ref b :: As).toArray) XC free := by
  obtain ⟨⟨hrc, hrs, hfr, hlo, hws, hcw⟩, hcode, hini, hy, hlen, hl, hin, hse⟩ := cw
  have hK : vx_Back l R p e below s args y 3 8 (PreOf R mc ms Pc) (PostOf Qc mc ms free) (vx_Post XC mc ms free) := vx_backW (hh := hh) (bytes := bytes) (maxL := maxL) (ret := ret) hM hp.1 hrc hrs hfr hlo hws hcw (fun a' U hW => word_at hW (Or.inl (by first | rfl | simp [Cond.onTables, Cond.keeps, Cond.steady])) hini)
  obtain ⟨hx, hb, hml, ho, -⟩ := S
  obtain ⟨-, ⟨cellB, hcB, hoB, hclB⟩, hPc⟩ := hp
  intro T hT X
  rcases vx_callVX X hx (C := C) (hh := hh) (bytes := bytes) (maxL := maxL) (ret := ret) ho hl hin hse hcode hy hK (by rw [hT]; exact hcB) hoB hclB hg (hsize.trans hml.symm) (argsL := As) (rest := rest) (fun sig h => hn.trans (hlen sig h)) hstack hW (by rw [hb]; exact hdg)
    (fun vm₁ hW₁ => ⟨hf.1, hf.2, hPc (T.setVm vm₁) hT hW₁⟩) with ⟨v, vm₁, ⟨U', l2, c2, s2⟩, hW₁, X', ⟨g', mk, t, L, e1, e2, hq, h1, hL, h2, h3⟩, st⟩ | ⟨q, vm₁, ⟨U', l2, c2, s2⟩, hW₁, X', ⟨g', mk, t, L, E, ce, e1, e2, hq, hce, hcv, hcl, h1, hL, h2, h3⟩, st⟩
  · dsimp only [Pt.U, Pt.locs, Pt.cells, Pt.slots] at X' e1 e2 h1 h2 h3 st
    subst h1; subst h2; subst h3
    exact Or.inl ⟨v, (T.setVm vm₁).calling g' mk (Value.ref b :: As).toArray, t, U', L, hT, X', hL, e1, e2, hq, st⟩
  · dsimp only [Pt.U, Pt.locs, Pt.cells, Pt.slots] at X' e1 e2 h1 h2 h3 st hcl
    subst h1; subst h2; subst h3
    exact Or.inr ⟨q, (T.setVm vm₁).calling g' mk (Value.ref b :: As).toArray, t, U', L, E, ce, hT, X', hL, e1, e2, hq, hce, hcv, vx_cls hW₁ hcl, st⟩
theorem vx_runSX {hh : List (Nat × Nat × Nat × Nat)} (S : CallFix p m c cc nL s args Ts own) (hM : vx_Met l y ws rm Pc Qc XC mc ms free) (cw : vx_CSW R s args own index y bytes maxL ret hh ws rm mc ms n) (hp : PreS s H Pc As)
    (hg : g.method = m) (hn : As.length = n) (hsize : g.locals.size = nL) (hstack : g.stack = As.reverse ++ rest) (hW : 2 * g.monitorRoom + (rest.map fun v => v.category).sum ≤ 8) (hdg : decode cc g.pc = .ok (.invokestatic index, 3)) (hf : cells + mc ≤ R.cells ∧ slots + ms ≤ R.slots) :
    vx_Run p l e R s m args below meth c H locs cells slots mc ms g rest (Qc As.toArray) XC free := by
  obtain ⟨⟨hrc, hrs, hfr, hlo, hws, hcw⟩, hcode, hini, hy, hlen, hl, hstt⟩ := cw
  have hK : vx_Back l R p e below s args y 3 8 (PreOf R mc ms Pc) (PostOf Qc mc ms free) (vx_Post XC mc ms free) := vx_backW (hh := hh) (bytes := bytes) (maxL := maxL) (ret := ret) hM hp.1 hrc hrs hfr hlo hws hcw (fun a' U hW => word_at hW (Or.inl (by first | rfl | simp [Cond.onTables, Cond.keeps, Cond.steady])) hini)
  obtain ⟨hx, hb, hml, ho, -⟩ := S
  intro T hT X
  rcases vx_callSX X hx (hh := hh) (bytes := bytes) (maxL := maxL) (ret := ret) ho hl hstt hini hcode hy hK hg (hsize.trans hml.symm) (argsL := As) (rest := rest) (fun sig h => hn.trans (hlen sig h)) hstack hW (by rw [hb]; exact hdg)
    (fun vm₁ hW₁ => ⟨hf.1, hf.2, hp.2 (T.setVm vm₁) hT hW₁⟩) with ⟨v, vm₁, ⟨U', l2, c2, s2⟩, hW₁, X', ⟨g', mk, t, L, e1, e2, hq, h1, hL, h2, h3⟩, st⟩ | ⟨q, vm₁, ⟨U', l2, c2, s2⟩, hW₁, X', ⟨g', mk, t, L, E, ce, e1, e2, hq, hce, hcv, hcl, h1, hL, h2, h3⟩, st⟩
  · dsimp only [Pt.U, Pt.locs, Pt.cells, Pt.slots] at X' e1 e2 h1 h2 h3 st
    subst h1; subst h2; subst h3
    exact Or.inl ⟨v, (T.setVm vm₁).calling g' mk As.toArray, t, U', L, hT, X', hL, e1, e2, hq, st⟩
  · dsimp only [Pt.U, Pt.locs, Pt.cells, Pt.slots] at X' e1 e2 h1 h2 h3 st hcl
    subst h1; subst h2; subst h3
    exact Or.inr ⟨q, (T.setVm vm₁).calling g' mk As.toArray, t, U', L, E, ce, hT, X', hL, e1, e2, hq, hce, hcv, vx_cls hW₁ hcl, st⟩
end
end VXH
theorem vx_ofWH {l : Launch} {y : MethodName} {ws ws' : List Cond} {rm : Room} {Pc : Array Value → State → Prop} {Qc : Array Value → State → Outcome → State → Prop} {XC : String → State → State → Prop} {mc ms : Nat} {free : Addr → Prop} {cc : ByteArray} {maxL : Nat} {ret : Option FieldType} {hh : List (Nat × Nat × Nat × Nat)}
    (hy : plainName y.cls = true) (hw : ws = Cond.codeWith y cc maxL ret hh :: ws')
    (body : ∀ p e s m args below meth c s₁, BodyLoose p l y (headSpec ws rm) cc maxL ret e s m args below meth c s₁ → c.maxLocals = maxL → Pc args s →
      W p l e (headSpec ws rm).room s m args below meth c s.heap [] 0 0 (vx_MQ below Qc XC args s mc ms free) (entryFrame m args maxL)) : vx_Met l y ws rm Pc Qc XC mc ms free := by
  refine MetFree.of_bodyS (code := cc) (maxLocals := maxL) (ret := ret) hy ?_ ?_
  · intro args s m h hn
    obtain ⟨m9, meth, c, hn9, h1, h2, h3, h4, -, h5, h6, -⟩ := Cond.codeWith_spec (atoms_spec (ws := ws) h _ (by rw [hw]; exact List.mem_cons_self))
    cases hn.symm.trans hn9
    exact ⟨meth, c, h1, h2, h3, h4, h5, h6⟩
  · intro p e s m args below meth c s₁ B hml hP _
    have hh0 : s₁.heap = s.heap := by rw [B.state]; rfl
    obtain ⟨t, a1, o, b1, b2, b3⟩ := body p e s m args below meth c s₁ B hml hP s₁ hh0 (Stand.of_body B)
    exact ⟨t, o, a1, b1, b2, b3⟩
/-! ===== END ===== -/
end
section
def RX0 : String := "FestivalFields$Escape"
def TX0 : u_T := fun k => match k with
  | 0 => ("FestivalFields$Escape", "ground", "LFestivalFields$Ground;", false)
  | 1 => ("FestivalFields$Escape", "lastMinute", "I", false)
  | 2 => ("FestivalFields$Escape", "begins", "[I", true)
  | 3 => ("FestivalFields$Escape", "waits", "[I", true)
  | 4 => ("FestivalFields$Escape", "totals", "[I", true)
  | 5 => ("FestivalFields$Escape", "unsent", "[I", true)
  | 6 => ("FestivalFields$Escape", "gateRoom", "[I", true)
  | 7 => ("FestivalFields$Escape", "latest", "[I", true)
  | 8 => ("FestivalFields$Escape", "isNew", "[Z", true)
  | 9 => ("FestivalFields$Escape", "steps", "[I", true)
  | 10 => ("FestivalFields$Escape", "nextMinutes", "[I", true)
  | _ => ("FestivalFields$Escape", "rooms", "[I", true)
def tyX0 : Nat → FieldType := fun k => match k with
  | 0 => .object "FestivalFields$Ground"
  | 1 => .int
  | 2 => .array .int
  | 3 => .array .int
  | 4 => .array .int
  | 5 => .array .int
  | 6 => .array .int
  | 7 => .array .int
  | 8 => .array .boolean
  | 9 => .array .int
  | 10 => .array .int
  | _ => .array .int
theorem nmX0 : ∀ a, a < 12 → ∀ b, b < 12 → a ≠ b → (TX0 a).2.1 ≠ (TX0 b).2.1 := by decide +kernel
theorem tyX0_ok : ∀ k, k < 12 → parseFieldDescriptor (TX0 k).2.2.1 = some (tyX0 k) := by decide +kernel
abbrev cX0_init : ByteArray := prog_2_method_1_code
def yX0_init : MethodName := ⟨RX0, "<init>", "()V"⟩
abbrev cX0_fewestMinutes : ByteArray := prog_2_method_2_code
def yX0_fewestMinutes : MethodName := ⟨RX0, "fewestMinutes", "(LFestivalFields$Ground;I)I"⟩
abbrev cX0_startAnew : ByteArray := prog_2_method_3_code
def yX0_startAnew : MethodName := ⟨RX0, "startAnew", "()I"⟩
abbrev cX0_openGates : ByteArray := prog_2_method_4_code
def yX0_openGates : MethodName := ⟨RX0, "openGates", "(I)V"⟩
abbrev cX0_findStart : ByteArray := prog_2_method_5_code
def yX0_findStart : MethodName := ⟨RX0, "findStart", "()I"⟩
abbrev cX0_reachGates : ByteArray := prog_2_method_6_code
def yX0_reachGates : MethodName := ⟨RX0, "reachGates", "()I"⟩
abbrev cX0_latestNew : ByteArray := prog_2_method_7_code
def yX0_latestNew : MethodName := ⟨RX0, "latestNew", "()I"⟩
abbrev cX0_reachByWaitingLess : ByteArray := prog_2_method_8_code
def yX0_reachByWaitingLess : MethodName := ⟨RX0, "reachByWaitingLess", "(I)V"⟩
abbrev cX0_reachByArc : ByteArray := prog_2_method_9_code
def yX0_reachByArc : MethodName := ⟨RX0, "reachByArc", "(III)V"⟩
abbrev cX0_reachByUndoing : ByteArray := prog_2_method_10_code
def yX0_reachByUndoing : MethodName := ⟨RX0, "reachByUndoing", "(III)V"⟩
abbrev cX0_goesOnAt : ByteArray := prog_2_method_11_code
def yX0_goesOnAt : MethodName := ⟨RX0, "goesOnAt", "(II)I"⟩
abbrev cX0_reach : ByteArray := prog_2_method_12_code
def yX0_reach : MethodName := ⟨RX0, "reach", "(IIIII)V"⟩
abbrev cX0_sendFrom : ByteArray := prog_2_method_13_code
def yX0_sendFrom : MethodName := ⟨RX0, "sendFrom", "(I)I"⟩
abbrev cX0_takeArc : ByteArray := prog_2_method_14_code
def yX0_takeArc : MethodName := ⟨RX0, "takeArc", "(III)I"⟩
abbrev cX0_undoArc : ByteArray := prog_2_method_15_code
def yX0_undoArc : MethodName := ⟨RX0, "undoArc", "(III)I"⟩
abbrev cX0_letWait : ByteArray := prog_2_method_16_code
def yX0_letWait : MethodName := ⟨RX0, "letWait", "(IIII)V"⟩
def RX1 : String := "FestivalFields$GateBook"
def TX1 : u_T := fun k => match k with
  | 0 => ("FestivalFields$GateBook", "bands", "[I", true)
  | 1 => ("FestivalFields$GateBook", "goesIn", "[Z", true)
  | 2 => ("FestivalFields$GateBook", "minutes", "[I", true)
  | 3 => ("FestivalFields$GateBook", "tolds", "[I", true)
  | 4 => ("FestivalFields$GateBook", "order", "[I", true)
  | _ => ("FestivalFields$GateBook", "passes", "I", false)
def tyX1 : Nat → FieldType := fun k => match k with
  | 0 => .array .int
  | 1 => .array .boolean
  | 2 => .array .int
  | 3 => .array .int
  | 4 => .array .int
  | _ => .int
theorem nmX1 : ∀ a, a < 6 → ∀ b, b < 6 → a ≠ b → (TX1 a).2.1 ≠ (TX1 b).2.1 := by decide +kernel
theorem tyX1_ok : ∀ k, k < 6 → parseFieldDescriptor (TX1 k).2.2.1 = some (tyX1 k) := by decide +kernel
abbrev cX1_init : ByteArray := prog_3_method_1_code
def yX1_init : MethodName := ⟨RX1, "<init>", "()V"⟩
abbrev cX1_write : ByteArray := prog_3_method_2_code
def yX1_write : MethodName := ⟨RX1, "write", "(IZII)I"⟩
abbrev cX1_isInside : ByteArray := prog_3_method_3_code
def yX1_isInside : MethodName := ⟨RX1, "isInside", "(III)Z"⟩
abbrev cX1_bandsInside : ByteArray := prog_3_method_4_code
def yX1_bandsInside : MethodName := ⟨RX1, "bandsInside", "(II)I"⟩
abbrev cX1_oddPasses : ByteArray := prog_3_method_5_code
def yX1_oddPasses : MethodName := ⟨RX1, "oddPasses", "(I)I"⟩
abbrev cX1_putInOrder : ByteArray := prog_3_method_6_code
def yX1_putInOrder : MethodName := ⟨RX1, "putInOrder", "(I)V"⟩
abbrev cX1_isBehind : ByteArray := prog_3_method_7_code
def yX1_isBehind : MethodName := ⟨RX1, "isBehind", "(II)Z"⟩
def RX2 : String := "FestivalFields$Ground"
def TX2 : u_T := fun k => match k with
  | 0 => ("FestivalFields$Ground", "crowds", "[I", true)
  | 1 => ("FestivalFields$Ground", "rates", "[I", true)
  | 2 => ("FestivalFields$Ground", "closed", "[Z", true)
  | 3 => ("FestivalFields$Ground", "places", "I", false)
  | 4 => ("FestivalFields$Ground", "heads", "[I", true)
  | 5 => ("FestivalFields$Ground", "lengths", "[I", true)
  | 6 => ("FestivalFields$Ground", "wides", "[I", true)
  | 7 => ("FestivalFields$Ground", "ways", "I", false)
  | 8 => ("FestivalFields$Ground", "arcsFrom", "[I", true)
  | 9 => ("FestivalFields$Ground", "arcCounts", "[I", true)
  | 10 => ("FestivalFields$Ground", "escape", "LFestivalFields$Escape;", true)
  | 11 => ("FestivalFields$Ground", "knownEmpty", "I", false)
  | _ => ("FestivalFields$Ground", "knownWorst", "I", false)
def tyX2 : Nat → FieldType := fun k => match k with
  | 0 => .array .int
  | 1 => .array .int
  | 2 => .array .boolean
  | 3 => .int
  | 4 => .array .int
  | 5 => .array .int
  | 6 => .array .int
  | 7 => .int
  | 8 => .array .int
  | 9 => .array .int
  | 10 => .object "FestivalFields$Escape"
  | 11 => .int
  | _ => .int
theorem nmX2 : ∀ a, a < 13 → ∀ b, b < 13 → a ≠ b → (TX2 a).2.1 ≠ (TX2 b).2.1 := by decide +kernel
theorem tyX2_ok : ∀ k, k < 13 → parseFieldDescriptor (TX2 k).2.2.1 = some (tyX2 k) := by decide +kernel
abbrev cX2_init : ByteArray := prog_4_method_1_code
def yX2_init : MethodName := ⟨RX2, "<init>", "()V"⟩
abbrev cX2_addPlace : ByteArray := prog_4_method_2_code
def yX2_addPlace : MethodName := ⟨RX2, "addPlace", "(II)I"⟩
abbrev cX2_setCrowd : ByteArray := prog_4_method_3_code
def yX2_setCrowd : MethodName := ⟨RX2, "setCrowd", "(II)V"⟩
abbrev cX2_setClosed : ByteArray := prog_4_method_4_code
def yX2_setClosed : MethodName := ⟨RX2, "setClosed", "(IZ)Z"⟩
abbrev cX2_addWay : ByteArray := prog_4_method_5_code
def yX2_addWay : MethodName := ⟨RX2, "addWay", "(IIII)I"⟩
abbrev cX2_allCrowd : ByteArray := prog_4_method_6_code
def yX2_allCrowd : MethodName := ⟨RX2, "allCrowd", "()I"⟩
abbrev cX2_isOpen : ByteArray := prog_4_method_7_code
def yX2_isOpen : MethodName := ⟨RX2, "isOpen", "(I)Z"⟩
abbrev cX2_leastMinutes : ByteArray := prog_4_method_8_code
def yX2_leastMinutes : MethodName := ⟨RX2, "leastMinutes", "()I"⟩
abbrev cX2_worstMinutes : ByteArray := prog_4_method_9_code
def yX2_worstMinutes : MethodName := ⟨RX2, "worstMinutes", "()I"⟩
abbrev cX2_addArc : ByteArray := prog_4_method_10_code
def yX2_addArc : MethodName := ⟨RX2, "addArc", "(IIIII)V"⟩
abbrev cX2_noteChange : ByteArray := prog_4_method_11_code
def yX2_noteChange : MethodName := ⟨RX2, "noteChange", "()V"⟩
def RX3 : String := "FestivalFields$Meadow"
def TX3 : u_T := fun k => match k with
  | 0 => ("FestivalFields$Meadow", "squares", "[I", true)
  | 1 => ("FestivalFields$Meadow", "gateSquare", "I", false)
  | 2 => ("FestivalFields$Meadow", "tents", "I", false)
  | _ => ("FestivalFields$Meadow", "standing", "I", false)
def tyX3 : Nat → FieldType := fun k => match k with
  | 0 => .array .int
  | 1 => .int
  | 2 => .int
  | _ => .int
theorem nmX3 : ∀ a, a < 4 → ∀ b, b < 4 → a ≠ b → (TX3 a).2.1 ≠ (TX3 b).2.1 := by decide +kernel
theorem tyX3_ok : ∀ k, k < 4 → parseFieldDescriptor (TX3 k).2.2.1 = some (tyX3 k) := by decide +kernel
abbrev cX3_init : ByteArray := prog_5_method_1_code
def yX3_init : MethodName := ⟨RX3, "<init>", "()V"⟩
abbrev cX3_setLane : ByteArray := prog_5_method_2_code
def yX3_setLane : MethodName := ⟨RX3, "setLane", "(IZ)Z"⟩
abbrev cX3_putTent : ByteArray := prog_5_method_3_code
def yX3_putTent : MethodName := ⟨RX3, "putTent", "(II)I"⟩
abbrev cX3_takeDown : ByteArray := prog_5_method_4_code
def yX3_takeDown : MethodName := ⟨RX3, "takeDown", "(I)Z"⟩
abbrev cX3_squaresWithTent : ByteArray := prog_5_method_5_code
def yX3_squaresWithTent : MethodName := ⟨RX3, "squaresWithTent", "()I"⟩
abbrev cX3_laneSquares : ByteArray := prog_5_method_6_code
def yX3_laneSquares : MethodName := ⟨RX3, "laneSquares", "()I"⟩
abbrev cX3_nearestCorner : ByteArray := prog_5_method_7_code
def yX3_nearestCorner : MethodName := ⟨RX3, "nearestCorner", "(II)I"⟩
abbrev cX3_stepsFromGate : ByteArray := prog_5_method_8_code
def yX3_stepsFromGate : MethodName := ⟨RX3, "stepsFromGate", "(II)I"⟩
abbrev cX3_isFree : ByteArray := prog_5_method_9_code
def yX3_isFree : MethodName := ⟨RX3, "isFree", "(IIII)Z"⟩
def RX4 : String := "FestivalFields$Programme"
def TX4 : u_T := fun k => match k with
  | 0 => ("FestivalFields$Programme", "arcs", "[I", true)
  | 1 => ("FestivalFields$Programme", "wides", "[I", true)
  | 2 => ("FestivalFields$Programme", "ends", "[I", true)
  | 3 => ("FestivalFields$Programme", "peoples", "[I", true)
  | 4 => ("FestivalFields$Programme", "acts", "I", false)
  | 5 => ("FestivalFields$Programme", "shifts", "[I", true)
  | 6 => ("FestivalFields$Programme", "bestShifts", "[I", true)
  | 7 => ("FestivalFields$Programme", "bestOver", "I", false)
  | 8 => ("FestivalFields$Programme", "bestSum", "I", false)
  | _ => ("FestivalFields$Programme", "isKnown", "Z", false)
def tyX4 : Nat → FieldType := fun k => match k with
  | 0 => .array .int
  | 1 => .array .int
  | 2 => .array .int
  | 3 => .array .int
  | 4 => .int
  | 5 => .array .int
  | 6 => .array .int
  | 7 => .int
  | 8 => .int
  | _ => .boolean
theorem nmX4 : ∀ a, a < 10 → ∀ b, b < 10 → a ≠ b → (TX4 a).2.1 ≠ (TX4 b).2.1 := by decide +kernel
theorem tyX4_ok : ∀ k, k < 10 → parseFieldDescriptor (TX4 k).2.2.1 = some (tyX4 k) := by decide +kernel
abbrev cX4_init : ByteArray := prog_6_method_1_code
def yX4_init : MethodName := ⟨RX4, "<init>", "()V"⟩
abbrev cX4_addAct : ByteArray := prog_6_method_2_code
def yX4_addAct : MethodName := ⟨RX4, "addAct", "(IIII)I"⟩
abbrev cX4_dropActs : ByteArray := prog_6_method_3_code
def yX4_dropActs : MethodName := ⟨RX4, "dropActs", "()I"⟩
abbrev cX4_findBest : ByteArray := prog_6_method_4_code
def yX4_findBest : MethodName := ⟨RX4, "findBest", "()V"⟩
abbrev cX4_tryShifts : ByteArray := prog_6_method_5_code
def yX4_tryShifts : MethodName := ⟨RX4, "tryShifts", "(III)V"⟩
abbrev cX4_addedOver : ByteArray := prog_6_method_6_code
def yX4_addedOver : MethodName := ⟨RX4, "addedOver", "(I)I"⟩
abbrev cX4_sentBefore : ByteArray := prog_6_method_7_code
def yX4_sentBefore : MethodName := ⟨RX4, "sentBefore", "(II)I"⟩
def RX5 : String := "FestivalFields$Reader"
def TX5 : u_T := fun k => match k with
  | 0 => ("FestivalFields$Reader", "tape", "LFestivalFields$Tape;", true)
  | 1 => ("FestivalFields$Reader", "next", "I", false)
  | _ => ("FestivalFields$Reader", "wrong", "I", false)
def tyX5 : Nat → FieldType := fun k => match k with
  | 0 => .object "FestivalFields$Tape"
  | 1 => .int
  | _ => .int
theorem nmX5 : ∀ a, a < 3 → ∀ b, b < 3 → a ≠ b → (TX5 a).2.1 ≠ (TX5 b).2.1 := by decide +kernel
theorem tyX5_ok : ∀ k, k < 3 → parseFieldDescriptor (TX5 k).2.2.1 = some (tyX5 k) := by decide +kernel
abbrev cX5_init : ByteArray := prog_7_method_1_code
def yX5_init : MethodName := ⟨RX5, "<init>", "(LFestivalFields$Tape;)V"⟩
abbrev cX5_readInto : ByteArray := prog_7_method_2_code
def yX5_readInto : MethodName := ⟨RX5, "readInto", "(LFestivalFields$Terms;)I"⟩
abbrev cX5_readTerm : ByteArray := prog_7_method_3_code
def yX5_readTerm : MethodName := ⟨RX5, "readTerm", "(LFestivalFields$Terms;)V"⟩
abbrev cX5_kindHere : ByteArray := prog_7_method_4_code
def yX5_kindHere : MethodName := ⟨RX5, "kindHere", "()I"⟩
abbrev cX5_highest : ByteArray := prog_7_method_5_code
def yX5_highest : MethodName := ⟨RX5, "highest", "(I)I"⟩
abbrev cX5_readWord : ByteArray := prog_7_method_6_code
def yX5_readWord : MethodName := ⟨RX5, "readWord", "(Ljava/lang/String;)V"⟩
abbrev cX5_readNumber : ByteArray := prog_7_method_7_code
def yX5_readNumber : MethodName := ⟨RX5, "readNumber", "(II)I"⟩
abbrev cX5_isWordHere : ByteArray := prog_7_method_8_code
def yX5_isWordHere : MethodName := ⟨RX5, "isWordHere", "(Ljava/lang/String;)Z"⟩
abbrev cX5_skipWord : ByteArray := prog_7_method_9_code
def yX5_skipWord : MethodName := ⟨RX5, "skipWord", "()V"⟩
abbrev cX5_skipBlanks : ByteArray := prog_7_method_10_code
def yX5_skipBlanks : MethodName := ⟨RX5, "skipBlanks", "()V"⟩
abbrev cX5_isLetter : ByteArray := prog_7_method_11_code
def yX5_isLetter : MethodName := ⟨RX5, "isLetter", "(I)Z"⟩
abbrev cX5_isDigit : ByteArray := prog_7_method_12_code
def yX5_isDigit : MethodName := ⟨RX5, "isDigit", "(I)Z"⟩
def RX6 : String := "FestivalFields$Tape"
def TX6 : u_T := fun k => match k with
  | 0 => ("FestivalFields$Tape", "bytes", "[I", true)
  | _ => ("FestivalFields$Tape", "size", "I", false)
def tyX6 : Nat → FieldType := fun k => match k with
  | 0 => .array .int
  | _ => .int
theorem nmX6 : ∀ a, a < 2 → ∀ b, b < 2 → a ≠ b → (TX6 a).2.1 ≠ (TX6 b).2.1 := by decide +kernel
theorem tyX6_ok : ∀ k, k < 2 → parseFieldDescriptor (TX6 k).2.2.1 = some (tyX6 k) := by decide +kernel
abbrev cX6_init : ByteArray := prog_8_method_1_code
def yX6_init : MethodName := ⟨RX6, "<init>", "()V"⟩
abbrev cX6_hasRoom : ByteArray := prog_8_method_2_code
def yX6_hasRoom : MethodName := ⟨RX6, "hasRoom", "()Z"⟩
abbrev cX6_append : ByteArray := prog_8_method_3_code
def yX6_append : MethodName := ⟨RX6, "append", "(I)V"⟩
abbrev cX6_byteAt : ByteArray := prog_8_method_4_code
def yX6_byteAt : MethodName := ⟨RX6, "byteAt", "(I)I"⟩
def RX7 : String := "FestivalFields$Terms"
def TX7 : u_T := fun k => match k with
  | 0 => ("FestivalFields$Terms", "kinds", "[I", true)
  | 1 => ("FestivalFields$Terms", "mosts", "[I", true)
  | 2 => ("FestivalFields$Terms", "firstHours", "[I", true)
  | 3 => ("FestivalFields$Terms", "lastHours", "[I", true)
  | _ => ("FestivalFields$Terms", "size", "I", false)
def tyX7 : Nat → FieldType := fun k => match k with
  | 0 => .array .int
  | 1 => .array .int
  | 2 => .array .int
  | 3 => .array .int
  | _ => .int
theorem nmX7 : ∀ a, a < 5 → ∀ b, b < 5 → a ≠ b → (TX7 a).2.1 ≠ (TX7 b).2.1 := by decide +kernel
theorem tyX7_ok : ∀ k, k < 5 → parseFieldDescriptor (TX7 k).2.2.1 = some (tyX7 k) := by decide +kernel
abbrev cX7_init : ByteArray := prog_9_method_1_code
def yX7_init : MethodName := ⟨RX7, "<init>", "()V"⟩
abbrev cX7_add : ByteArray := prog_9_method_2_code
def yX7_add : MethodName := ⟨RX7, "add", "(IIII)V"⟩
def RX8 : String := "FestivalFields"
def TX8 : u_T := fun k => match k with
  | 0 => ("FestivalFields", "tape", "LFestivalFields$Tape;", true)
  | 1 => ("FestivalFields", "reader", "LFestivalFields$Reader;", true)
  | 2 => ("FestivalFields", "meadow", "LFestivalFields$Meadow;", true)
  | 3 => ("FestivalFields", "ground", "LFestivalFields$Ground;", true)
  | 4 => ("FestivalFields", "programme", "LFestivalFields$Programme;", true)
  | 5 => ("FestivalFields", "book", "LFestivalFields$GateBook;", true)
  | 6 => ("FestivalFields", "loudness", "[I", true)
  | 7 => ("FestivalFields", "terms", "LFestivalFields$Terms;", false)
  | 8 => ("FestivalFields", "spareTerms", "LFestivalFields$Terms;", false)
  | 9 => ("FestivalFields", "now", "I", false)
  | _ => ("FestivalFields", "wrongByte", "I", false)
def tyX8 : Nat → FieldType := fun k => match k with
  | 0 => .object "FestivalFields$Tape"
  | 1 => .object "FestivalFields$Reader"
  | 2 => .object "FestivalFields$Meadow"
  | 3 => .object "FestivalFields$Ground"
  | 4 => .object "FestivalFields$Programme"
  | 5 => .object "FestivalFields$GateBook"
  | 6 => .array .int
  | 7 => .object "FestivalFields$Terms"
  | 8 => .object "FestivalFields$Terms"
  | 9 => .int
  | _ => .int
theorem nmX8 : ∀ a, a < 11 → ∀ b, b < 11 → a ≠ b → (TX8 a).2.1 ≠ (TX8 b).2.1 := by decide +kernel
theorem tyX8_ok : ∀ k, k < 11 → parseFieldDescriptor (TX8 k).2.2.1 = some (tyX8 k) := by decide +kernel
abbrev cX8_init : ByteArray := prog_1_method_1_code
def yX8_init : MethodName := ⟨RX8, "<init>", "()V"⟩
abbrev cX8_feed : ByteArray := prog_1_method_2_code
def yX8_feed : MethodName := ⟨RX8, "feed", "(IIIII)I"⟩
abbrev cX8_end : ByteArray := prog_1_method_3_code
def yX8_end : MethodName := ⟨RX8, "end", "(I)Z"⟩
abbrev cX8_lane : ByteArray := prog_1_method_4_code
def yX8_lane : MethodName := ⟨RX8, "lane", "(IZ)Z"⟩
abbrev cX8_gate : ByteArray := prog_1_method_5_code
def yX8_gate : MethodName := ⟨RX8, "gate", "(I)V"⟩
abbrev cX8_tent : ByteArray := prog_1_method_6_code
def yX8_tent : MethodName := ⟨RX8, "tent", "(II)I"⟩
abbrev cX8_strike : ByteArray := prog_1_method_7_code
def yX8_strike : MethodName := ⟨RX8, "strike", "(I)Z"⟩
abbrev cX8_at : ByteArray := prog_1_method_8_code
def yX8_at : MethodName := ⟨RX8, "at", "(I)I"⟩
abbrev cX8_place : ByteArray := prog_1_method_9_code
def yX8_place : MethodName := ⟨RX8, "place", "(II)I"⟩
abbrev cX8_crowd : ByteArray := prog_1_method_10_code
def yX8_crowd : MethodName := ⟨RX8, "crowd", "(II)V"⟩
abbrev cX8_shut : ByteArray := prog_1_method_11_code
def yX8_shut : MethodName := ⟨RX8, "shut", "(IZ)Z"⟩
abbrev cX8_way : ByteArray := prog_1_method_12_code
def yX8_way : MethodName := ⟨RX8, "way", "(IIII)I"⟩
abbrev cX8_empty : ByteArray := prog_1_method_13_code
def yX8_empty : MethodName := ⟨RX8, "empty", "()I"⟩
abbrev cX8_worst : ByteArray := prog_1_method_14_code
def yX8_worst : MethodName := ⟨RX8, "worst", "()I"⟩
abbrev cX8_act : ByteArray := prog_1_method_15_code
def yX8_act : MethodName := ⟨RX8, "act", "(IZII)I"⟩
abbrev cX8_tooMany : ByteArray := prog_1_method_16_code
def yX8_tooMany : MethodName := ⟨RX8, "tooMany", "()I"⟩
abbrev cX8_shift : ByteArray := prog_1_method_17_code
def yX8_shift : MethodName := ⟨RX8, "shift", "(I)I"⟩
abbrev cX8_forget : ByteArray := prog_1_method_18_code
def yX8_forget : MethodName := ⟨RX8, "forget", "()I"⟩
abbrev cX8_minutes : ByteArray := prog_1_method_19_code
def yX8_minutes : MethodName := ⟨RX8, "minutes", "(I)I"⟩
abbrev cX8_pass : ByteArray := prog_1_method_20_code
def yX8_pass : MethodName := ⟨RX8, "pass", "(IZI)I"⟩
abbrev cX8_inside : ByteArray := prog_1_method_21_code
def yX8_inside : MethodName := ⟨RX8, "inside", "(III)Z"⟩
abbrev cX8_within : ByteArray := prog_1_method_22_code
def yX8_within : MethodName := ⟨RX8, "within", "(ZII)I"⟩
abbrev cX8_noise : ByteArray := prog_1_method_23_code
def yX8_noise : MethodName := ⟨RX8, "noise", "(II)V"⟩
abbrev cX8_licence : ByteArray := prog_1_method_24_code
def yX8_licence : MethodName := ⟨RX8, "licence", "()I"⟩
abbrev cX8_fault : ByteArray := prog_1_method_25_code
def yX8_fault : MethodName := ⟨RX8, "fault", "()I"⟩
abbrev cX8_broken : ByteArray := prog_1_method_26_code
def yX8_broken : MethodName := ⟨RX8, "broken", "()I"⟩
abbrev cX8_count : ByteArray := prog_1_method_27_code
def yX8_count : MethodName := ⟨RX8, "count", "(I)I"⟩
abbrev cX8_holds : ByteArray := prog_1_method_28_code
def yX8_holds : MethodName := ⟨RX8, "holds", "(I)Z"⟩
abbrev cX8_isQuiet : ByteArray := prog_1_method_29_code
def yX8_isQuiet : MethodName := ⟨RX8, "isQuiet", "(III)Z"⟩
abbrev cX8_isAtMost : ByteArray := prog_1_method_30_code
def yX8_isAtMost : MethodName := ⟨RX8, "isAtMost", "(II)Z"⟩
abbrev cX8_requireIndex : ByteArray := prog_1_method_31_code
def yX8_requireIndex : MethodName := ⟨RX8, "requireIndex", "(II)V"⟩
abbrev cX8_requireNumber : ByteArray := prog_1_method_32_code
def yX8_requireNumber : MethodName := ⟨RX8, "requireNumber", "(III)V"⟩
def RX9 : String := "FestivalFieldsModel"
def TX9 : u_T := fun k => match k with
  | 0 => ("FestivalFieldsModel", "thrown", "I", false)
  | 1 => ("FestivalFieldsModel", "on", "[I", true)
  | 2 => ("FestivalFieldsModel", "stands", "[Z", true)
  | 3 => ("FestivalFieldsModel", "tents", "I", false)
  | 4 => ("FestivalFieldsModel", "gate", "I", false)
  | 5 => ("FestivalFieldsModel", "crowd", "[I", true)
  | 6 => ("FestivalFieldsModel", "rate", "[I", true)
  | 7 => ("FestivalFieldsModel", "isShut", "[Z", true)
  | 8 => ("FestivalFieldsModel", "places", "I", false)
  | 9 => ("FestivalFieldsModel", "from", "[I", true)
  | 10 => ("FestivalFieldsModel", "to", "[I", true)
  | 11 => ("FestivalFieldsModel", "length", "[I", true)
  | 12 => ("FestivalFieldsModel", "wide", "[I", true)
  | 13 => ("FestivalFieldsModel", "ways", "I", false)
  | 14 => ("FestivalFieldsModel", "waits", "[I", true)
  | 15 => ("FestivalFieldsModel", "goes", "[I", true)
  | 16 => ("FestivalFieldsModel", "outs", "[I", true)
  | 17 => ("FestivalFieldsModel", "left", "[I", true)
  | 18 => ("FestivalFieldsModel", "cameFrom", "[I", true)
  | 19 => ("FestivalFieldsModel", "cameBy", "[I", true)
  | 20 => ("FestivalFieldsModel", "isBack", "[Z", true)
  | 21 => ("FestivalFieldsModel", "isSeen", "[Z", true)
  | 22 => ("FestivalFieldsModel", "queue", "[I", true)
  | 23 => ("FestivalFieldsModel", "queued", "I", false)
  | 24 => ("FestivalFieldsModel", "actWay", "[I", true)
  | 25 => ("FestivalFieldsModel", "ends", "[I", true)
  | 26 => ("FestivalFieldsModel", "people", "[I", true)
  | 27 => ("FestivalFieldsModel", "acts", "I", false)
  | 28 => ("FestivalFieldsModel", "shift", "[I", true)
  | 29 => ("FestivalFieldsModel", "best", "[I", true)
  | 30 => ("FestivalFieldsModel", "now", "I", false)
  | 31 => ("FestivalFieldsModel", "pBand", "[I", true)
  | 32 => ("FestivalFieldsModel", "pIn", "[Z", true)
  | 33 => ("FestivalFieldsModel", "pMinute", "[I", true)
  | 34 => ("FestivalFieldsModel", "pTold", "[I", true)
  | 35 => ("FestivalFieldsModel", "passes", "I", false)
  | 36 => ("FestivalFieldsModel", "term", "[I", true)
  | 37 => ("FestivalFieldsModel", "draft", "[I", true)
  | 38 => ("FestivalFieldsModel", "terms", "I", false)
  | 39 => ("FestivalFieldsModel", "noise", "[I", true)
  | 40 => ("FestivalFieldsModel", "tape", "[B", true)
  | 41 => ("FestivalFieldsModel", "taped", "I", false)
  | 42 => ("FestivalFieldsModel", "point", "I", false)
  | 43 => ("FestivalFieldsModel", "end", "I", false)
  | 44 => ("FestivalFieldsModel", "begin", "I", false)
  | 45 => ("FestivalFieldsModel", "faultAt", "I", false)
  | _ => ("FestivalFieldsModel", "five", "[I", true)
def tyX9 : Nat → FieldType := fun k => match k with
  | 0 => .int
  | 1 => .array .int
  | 2 => .array .boolean
  | 3 => .int
  | 4 => .int
  | 5 => .array .int
  | 6 => .array .int
  | 7 => .array .boolean
  | 8 => .int
  | 9 => .array .int
  | 10 => .array .int
  | 11 => .array .int
  | 12 => .array .int
  | 13 => .int
  | 14 => .array .int
  | 15 => .array .int
  | 16 => .array .int
  | 17 => .array .int
  | 18 => .array .int
  | 19 => .array .int
  | 20 => .array .boolean
  | 21 => .array .boolean
  | 22 => .array .int
  | 23 => .int
  | 24 => .array .int
  | 25 => .array .int
  | 26 => .array .int
  | 27 => .int
  | 28 => .array .int
  | 29 => .array .int
  | 30 => .int
  | 31 => .array .int
  | 32 => .array .boolean
  | 33 => .array .int
  | 34 => .array .int
  | 35 => .int
  | 36 => .array .int
  | 37 => .array .int
  | 38 => .int
  | 39 => .array .int
  | 40 => .array .byte
  | 41 => .int
  | 42 => .int
  | 43 => .int
  | 44 => .int
  | 45 => .int
  | _ => .array .int
theorem nmX9 : ∀ a, a < 47 → ∀ b, b < 47 → a ≠ b → (TX9 a).2.1 ≠ (TX9 b).2.1 := by decide +kernel
theorem tyX9_ok : ∀ k, k < 47 → parseFieldDescriptor (TX9 k).2.2.1 = some (tyX9 k) := by decide +kernel
abbrev cX9_thrown : ByteArray := prog_11_method_1_code
def yX9_thrown : MethodName := ⟨RX9, "thrown", "()I"⟩
abbrev cX9_throwsIf : ByteArray := prog_11_method_2_code
def yX9_throwsIf : MethodName := ⟨RX9, "throwsIf", "(ZI)Z"⟩
abbrev cX9_in : ByteArray := prog_11_method_3_code
def yX9_in : MethodName := ⟨RX9, "in", "(III)Z"⟩
abbrev cX9_init : ByteArray := prog_11_method_4_code
def yX9_init : MethodName := ⟨RX9, "<init>", "()V"⟩
abbrev cX9_noSquare : ByteArray := prog_11_method_5_code
def yX9_noSquare : MethodName := ⟨RX9, "noSquare", "(I)Z"⟩
abbrev cX9_lane : ByteArray := prog_11_method_6_code
def yX9_lane : MethodName := ⟨RX9, "lane", "(IZ)Z"⟩
abbrev cX9_gate : ByteArray := prog_11_method_7_code
def yX9_gate : MethodName := ⟨RX9, "gate", "(I)V"⟩
abbrev cX9_isFree : ByteArray := prog_11_method_8_code
def yX9_isFree : MethodName := ⟨RX9, "isFree", "(III)Z"⟩
abbrev cX9_tent : ByteArray := prog_11_method_9_code
def yX9_tent : MethodName := ⟨RX9, "tent", "(II)I"⟩
abbrev cX9_strike : ByteArray := prog_11_method_10_code
def yX9_strike : MethodName := ⟨RX9, "strike", "(I)Z"⟩
abbrev cX9_at : ByteArray := prog_11_method_11_code
def yX9_at : MethodName := ⟨RX9, "at", "(I)I"⟩
abbrev cX9_standing : ByteArray := prog_11_method_12_code
def yX9_standing : MethodName := ⟨RX9, "standing", "()I"⟩
abbrev cX9_noPlace : ByteArray := prog_11_method_13_code
def yX9_noPlace : MethodName := ⟨RX9, "noPlace", "(I)Z"⟩
abbrev cX9_place : ByteArray := prog_11_method_14_code
def yX9_place : MethodName := ⟨RX9, "place", "(II)I"⟩
abbrev cX9_crowd : ByteArray := prog_11_method_15_code
def yX9_crowd : MethodName := ⟨RX9, "crowd", "(II)V"⟩
abbrev cX9_shut : ByteArray := prog_11_method_16_code
def yX9_shut : MethodName := ⟨RX9, "shut", "(IZ)Z"⟩
abbrev cX9_adds : ByteArray := prog_11_method_17_code
def yX9_adds : MethodName := ⟨RX9, "adds", "(IIIII)V"⟩
abbrev cX9_way : ByteArray := prog_11_method_18_code
def yX9_way : MethodName := ⟨RX9, "way", "(IIII)I"⟩
abbrev cX9_crowdOfAll : ByteArray := prog_11_method_19_code
def yX9_crowdOfAll : MethodName := ⟨RX9, "crowdOfAll", "()I"⟩
abbrev cX9_nodeOf : ByteArray := prog_11_method_20_code
def yX9_nodeOf : MethodName := ⟨RX9, "nodeOf", "(II)I"⟩
abbrev cX9_comes : ByteArray := prog_11_method_21_code
def yX9_comes : MethodName := ⟨RX9, "comes", "(IIIZ)V"⟩
abbrev cX9_spreads : ByteArray := prog_11_method_22_code
def yX9_spreads : MethodName := ⟨RX9, "spreads", "(II)V"⟩
abbrev cX9_bears : ByteArray := prog_11_method_23_code
def yX9_bears : MethodName := ⟨RX9, "bears", "(I)I"⟩
abbrev cX9_sends : ByteArray := prog_11_method_24_code
def yX9_sends : MethodName := ⟨RX9, "sends", "(II)V"⟩
abbrev cX9_more : ByteArray := prog_11_method_25_code
def yX9_more : MethodName := ⟨RX9, "more", "(II)I"⟩
abbrev cX9_leads : ByteArray := prog_11_method_26_code
def yX9_leads : MethodName := ⟨RX9, "leads", "(I)I"⟩
abbrev cX9_emptied : ByteArray := prog_11_method_27_code
def yX9_emptied : MethodName := ⟨RX9, "emptied", "(I)I"⟩
abbrev cX9_empty : ByteArray := prog_11_method_28_code
def yX9_empty : MethodName := ⟨RX9, "empty", "()I"⟩
abbrev cX9_worstOf : ByteArray := prog_11_method_29_code
def yX9_worstOf : MethodName := ⟨RX9, "worstOf", "()I"⟩
abbrev cX9_worst : ByteArray := prog_11_method_30_code
def yX9_worst : MethodName := ⟨RX9, "worst", "()I"⟩
abbrev cX9_act : ByteArray := prog_11_method_31_code
def yX9_act : MethodName := ⟨RX9, "act", "(IZII)I"⟩
abbrev cX9_above : ByteArray := prog_11_method_32_code
def yX9_above : MethodName := ⟨RX9, "above", "(II)I"⟩
abbrev cX9_aboveOfAll : ByteArray := prog_11_method_33_code
def yX9_aboveOfAll : MethodName := ⟨RX9, "aboveOfAll", "()I"⟩
abbrev cX9_seeks : ByteArray := prog_11_method_34_code
def yX9_seeks : MethodName := ⟨RX9, "seeks", "()I"⟩
abbrev cX9_tooMany : ByteArray := prog_11_method_35_code
def yX9_tooMany : MethodName := ⟨RX9, "tooMany", "()I"⟩
abbrev cX9_shift : ByteArray := prog_11_method_36_code
def yX9_shift : MethodName := ⟨RX9, "shift", "(I)I"⟩
abbrev cX9_forget : ByteArray := prog_11_method_37_code
def yX9_forget : MethodName := ⟨RX9, "forget", "()I"⟩
abbrev cX9_minutes : ByteArray := prog_11_method_38_code
def yX9_minutes : MethodName := ⟨RX9, "minutes", "(I)I"⟩
abbrev cX9_noBand : ByteArray := prog_11_method_39_code
def yX9_noBand : MethodName := ⟨RX9, "noBand", "(I)Z"⟩
abbrev cX9_pass : ByteArray := prog_11_method_40_code
def yX9_pass : MethodName := ⟨RX9, "pass", "(IZI)I"⟩
abbrev cX9_lastOf : ByteArray := prog_11_method_41_code
def yX9_lastOf : MethodName := ⟨RX9, "lastOf", "(IIII)I"⟩
abbrev cX9_isInside : ByteArray := prog_11_method_42_code
def yX9_isInside : MethodName := ⟨RX9, "isInside", "(III)Z"⟩
abbrev cX9_inside : ByteArray := prog_11_method_43_code
def yX9_inside : MethodName := ⟨RX9, "inside", "(III)Z"⟩
abbrev cX9_within : ByteArray := prog_11_method_44_code
def yX9_within : MethodName := ⟨RX9, "within", "(ZII)I"⟩
abbrev cX9_feed : ByteArray := prog_11_method_45_code
def yX9_feed : MethodName := ⟨RX9, "feed", "(IIIII)I"⟩
abbrev cX9_end : ByteArray := prog_11_method_46_code
def yX9_end : MethodName := ⟨RX9, "end", "(I)Z"⟩
abbrev cX9_noise : ByteArray := prog_11_method_47_code
def yX9_noise : MethodName := ⟨RX9, "noise", "(II)V"⟩
abbrev cX9_isAt : ByteArray := prog_11_method_48_code
def yX9_isAt : MethodName := ⟨RX9, "isAt", "(II)Z"⟩
abbrev cX9_blanks : ByteArray := prog_11_method_49_code
def yX9_blanks : MethodName := ⟨RX9, "blanks", "()V"⟩
abbrev cX9_word : ByteArray := prog_11_method_50_code
def yX9_word : MethodName := ⟨RX9, "word", "()V"⟩
abbrev cX9_isWord : ByteArray := prog_11_method_51_code
def yX9_isWord : MethodName := ⟨RX9, "isWord", "(Ljava/lang/String;)Z"⟩
abbrev cX9_number : ByteArray := prog_11_method_52_code
def yX9_number : MethodName := ⟨RX9, "number", "(III)Z"⟩
abbrev cX9_readTerm : ByteArray := prog_11_method_53_code
def yX9_readTerm : MethodName := ⟨RX9, "readTerm", "(I)Z"⟩
abbrev cX9_readAll : ByteArray := prog_11_method_54_code
def yX9_readAll : MethodName := ⟨RX9, "readAll", "()I"⟩
abbrev cX9_licence : ByteArray := prog_11_method_55_code
def yX9_licence : MethodName := ⟨RX9, "licence", "()I"⟩
abbrev cX9_fault : ByteArray := prog_11_method_56_code
def yX9_fault : MethodName := ⟨RX9, "fault", "()I"⟩
abbrev cX9_holds : ByteArray := prog_11_method_57_code
def yX9_holds : MethodName := ⟨RX9, "holds", "(I)Z"⟩
abbrev cX9_broken : ByteArray := prog_11_method_58_code
def yX9_broken : MethodName := ⟨RX9, "broken", "()I"⟩
abbrev cX9_count : ByteArray := prog_11_method_59_code
def yX9_count : MethodName := ⟨RX9, "count", "(I)I"⟩
def RJ9 : String := "java/lang/Math"
def TJ9 : u_T := fun k => match k with
  | _ => ("", "", "", false)
def tyJ9 : Nat → FieldType := fun k => match k with
  | _ => .int
theorem nmJ9 : ∀ a, a < 0 → ∀ b, b < 0 → a ≠ b → (TJ9 a).2.1 ≠ (TJ9 b).2.1 := by decide +kernel
theorem tyJ9_ok : ∀ k, k < 0 → parseFieldDescriptor (TJ9 k).2.2.1 = some (tyJ9 k) := by decide +kernel
abbrev cJ9_abs_0f7a4 : ByteArray := prog_15_method_59_code
def yJ9_abs_0f7a4 : MethodName := ⟨RJ9, "abs", "(I)I"⟩
abbrev cJ9_max_7cf53 : ByteArray := prog_15_method_65_code
def yJ9_max_7cf53 : MethodName := ⟨RJ9, "max", "(II)I"⟩
abbrev cJ9_min_7cf53 : ByteArray := prog_15_method_69_code
def yJ9_min_7cf53 : MethodName := ⟨RJ9, "min", "(II)I"⟩
def RJ0 : String := "java/lang/String"
def TJ0 : u_T := fun k => match k with
  | _ => ("", "", "", false)
def tyJ0 : Nat → FieldType := fun k => match k with
  | _ => .int
theorem nmJ0 : ∀ a, a < 0 → ∀ b, b < 0 → a ≠ b → (TJ0 a).2.1 ≠ (TJ0 b).2.1 := by decide +kernel
theorem tyJ0_ok : ∀ k, k < 0 → parseFieldDescriptor (TJ0 k).2.2.1 = some (tyJ0 k) := by decide +kernel
abbrev cJ0_length_8abf5 : ByteArray := prog_17_method_54_code
def yJ0_length_8abf5 : MethodName := ⟨RJ0, "length", "()I"⟩
abbrev cJ0_charAt_5068e : ByteArray := prog_17_method_56_code
def yJ0_charAt_5068e : MethodName := ⟨RJ0, "charAt", "(I)C"⟩
abbrev cJ0_coder_7d493 : ByteArray := prog_17_method_152_code
def yJ0_coder_7d493 : MethodName := ⟨RJ0, "coder", "()B"⟩
abbrev cJ0_isLatin1_aae02 : ByteArray := prog_17_method_154_code
def yJ0_isLatin1_aae02 : MethodName := ⟨RJ0, "isLatin1", "()Z"⟩
abbrev cJ0_checkIndex_df160 : ByteArray := prog_17_method_155_code
def yJ0_checkIndex_df160 : MethodName := ⟨RJ0, "checkIndex", "(II)V"⟩
def RJ1 : String := "java/lang/StringLatin1"
def TJ1 : u_T := fun k => match k with
  | _ => ("", "", "", false)
def tyJ1 : Nat → FieldType := fun k => match k with
  | _ => .int
theorem nmJ1 : ∀ a, a < 0 → ∀ b, b < 0 → a ≠ b → (TJ1 a).2.1 ≠ (TJ1 b).2.1 := by decide +kernel
theorem tyJ1_ok : ∀ k, k < 0 → parseFieldDescriptor (TJ1 k).2.2.1 = some (tyJ1 k) := by decide +kernel
abbrev cJ1_charAt_3b067 : ByteArray := prog_18_method_2_code
def yJ1_charAt_3b067 : MethodName := ⟨RJ1, "charAt", "([BI)C"⟩
def RJ2 : String := "java/lang/StringUTF16"
def TJ2 : u_T := fun k => match k with
  | _ => ("", "", "", false)
def tyJ2 : Nat → FieldType := fun k => match k with
  | _ => .int
theorem nmJ2 : ∀ a, a < 0 → ∀ b, b < 0 → a ≠ b → (TJ2 a).2.1 ≠ (TJ2 b).2.1 := by decide +kernel
theorem tyJ2_ok : ∀ k, k < 0 → parseFieldDescriptor (TJ2 k).2.2.1 = some (tyJ2 k) := by decide +kernel
abbrev cJ2_getChar_3b067 : ByteArray := prog_19_method_5_code
def yJ2_getChar_3b067 : MethodName := ⟨RJ2, "getChar", "([BI)C"⟩
abbrev cJ2_length_9d52b : ByteArray := prog_19_method_6_code
def yJ2_length_9d52b : MethodName := ⟨RJ2, "length", "([B)I"⟩
abbrev cJ2_charAt_3b067 : ByteArray := prog_19_method_83_code
def yJ2_charAt_3b067 : MethodName := ⟨RJ2, "charAt", "([BI)C"⟩
abbrev cJ2_checkIndex_2214a : ByteArray := prog_19_method_91_code
def yJ2_checkIndex_2214a : MethodName := ⟨RJ2, "checkIndex", "(I[B)V"⟩
def RJ10 : String := "java/lang/System"
def TJ10 : u_T := fun k => match k with
  | _ => ("", "", "", false)
def tyJ10 : Nat → FieldType := fun k => match k with
  | _ => .int
theorem nmJ10 : ∀ a, a < 0 → ∀ b, b < 0 → a ≠ b → (TJ10 a).2.1 ≠ (TJ10 b).2.1 := by decide +kernel
theorem tyJ10_ok : ∀ k, k < 0 → parseFieldDescriptor (TJ10 k).2.2.1 = some (tyJ10 k) := by decide +kernel
def RJ7 : String := "java/util/Arrays"
def TJ7 : u_T := fun k => match k with
  | _ => ("", "", "", false)
def tyJ7 : Nat → FieldType := fun k => match k with
  | _ => .int
theorem nmJ7 : ∀ a, a < 0 → ∀ b, b < 0 → a ≠ b → (TJ7 a).2.1 ≠ (TJ7 b).2.1 := by decide +kernel
theorem tyJ7_ok : ∀ k, k < 0 → parseFieldDescriptor (TJ7 k).2.2.1 = some (tyJ7 k) := by decide +kernel
abbrev cJ7_fill_53178 : ByteArray := prog_23_method_103_code
def yJ7_fill_53178 : MethodName := ⟨RJ7, "fill", "([II)V"⟩
def RJ3 : String := "jdk/internal/util/Preconditions"
def TJ3 : u_T := fun k => match k with
  | _ => ("", "", "", false)
def tyJ3 : Nat → FieldType := fun k => match k with
  | _ => .int
theorem nmJ3 : ∀ a, a < 0 → ∀ b, b < 0 → a ≠ b → (TJ3 a).2.1 ≠ (TJ3 b).2.1 := by decide +kernel
theorem tyJ3_ok : ∀ k, k < 0 → parseFieldDescriptor (TJ3 k).2.2.1 = some (tyJ3 k) := by decide +kernel
abbrev cJ3_checkIndex_8e157 : ByteArray := prog_24_method_11_code
def yJ3_checkIndex_8e157 : MethodName := ⟨RJ3, "checkIndex", "(IILjava/util/function/BiFunction;)I"⟩
def RL : String := "FestivalFieldsLaw"
abbrev cL_lane : ByteArray := method_3_code
def yL_lane : MethodName := ⟨RL, "lane", "(LFestivalFields;IZ[J)I"⟩
abbrev cL_gate : ByteArray := method_4_code
def yL_gate : MethodName := ⟨RL, "gate", "(LFestivalFields;I)I"⟩
abbrev cL_tent : ByteArray := method_5_code
def yL_tent : MethodName := ⟨RL, "tent", "(LFestivalFields;II[J)I"⟩
abbrev cL_strike : ByteArray := method_6_code
def yL_strike : MethodName := ⟨RL, "strike", "(LFestivalFields;I[J)I"⟩
abbrev cL_at : ByteArray := method_7_code
def yL_at : MethodName := ⟨RL, "at", "(LFestivalFields;I[J)I"⟩
abbrev cL_place : ByteArray := method_8_code
def yL_place : MethodName := ⟨RL, "place", "(LFestivalFields;II[J)I"⟩
abbrev cL_crowd : ByteArray := method_9_code
def yL_crowd : MethodName := ⟨RL, "crowd", "(LFestivalFields;II)I"⟩
abbrev cL_shut : ByteArray := method_10_code
def yL_shut : MethodName := ⟨RL, "shut", "(LFestivalFields;IZ[J)I"⟩
abbrev cL_way : ByteArray := method_11_code
def yL_way : MethodName := ⟨RL, "way", "(LFestivalFields;IIII[J)I"⟩
abbrev cL_act : ByteArray := method_12_code
def yL_act : MethodName := ⟨RL, "act", "(LFestivalFields;IZII[J)I"⟩
abbrev cL_shift : ByteArray := method_13_code
def yL_shift : MethodName := ⟨RL, "shift", "(LFestivalFields;I[J)I"⟩
abbrev cL_minutes : ByteArray := method_14_code
def yL_minutes : MethodName := ⟨RL, "minutes", "(LFestivalFields;I[J)I"⟩
abbrev cL_pass : ByteArray := method_15_code
def yL_pass : MethodName := ⟨RL, "pass", "(LFestivalFields;IZI[J)I"⟩
abbrev cL_inside : ByteArray := method_16_code
def yL_inside : MethodName := ⟨RL, "inside", "(LFestivalFields;III[J)I"⟩
abbrev cL_noise : ByteArray := method_17_code
def yL_noise : MethodName := ⟨RL, "noise", "(LFestivalFields;II)I"⟩
abbrev cL_licence : ByteArray := method_18_code
def yL_licence : MethodName := ⟨RL, "licence", "(LFestivalFields;[J)I"⟩
abbrev cL_law : ByteArray := code
def yL_law : MethodName := ⟨RL, "law", "([I)Z"⟩
abbrev vwCl : List vw_C := [(RX0, TX0, 12), (RX1, TX1, 6), (RX2, TX2, 13), (RX3, TX3, 4), (RX4, TX4, 10), (RX5, TX5, 3), (RX6, TX6, 2), (RX7, TX7, 5), (RX8, TX8, 11), (RX9, TX9, 47)]
end
section
/-! THE WORDS: of the law's tables those that stand through all warming; every method's list is its own code and these -/
def gG : List Cond := lw_tbl.filter goodWord
theorem gG_in {w : Cond} (h : w ∈ lw_tbl) (hg : goodWord w = true) : w ∈ gG := List.mem_filter.mpr ⟨h, hg⟩
theorem gG_lw : ∀ w ∈ gG, w ∈ lw_tbl := fun _ h => (List.mem_filter.mp h).1
theorem gG_good : ∀ w ∈ gG, goodWord w = true := fun _ h => (List.mem_filter.mp h).2
theorem gG_p (i : Nat) {q : MethodName × Nat} (h : lw_privs[i]? = some q) : Cond.selects q.1.cls q.1 q.1 ∈ gG := gG_in (List.mem_append_left _ (List.mem_map.mpr ⟨q, List.mem_of_getElem? h, rfl⟩)) rfl
theorem gG_t {w : Cond} (h : w ∈ tables_1) (hg : goodWord w = true) : w ∈ gG := gG_in (List.mem_append_right _ h) hg
theorem gG_1 (i : Nat) {w : Cond} (h0 : tables_1_1[i]? = some w) (hg : goodWord w = true) : w ∈ gG := by
  have h := List.mem_of_getElem? h0
  exact gG_t (List.mem_append_left _ (h)) hg
theorem gG_2 (i : Nat) {w : Cond} (h0 : tables_1_2[i]? = some w) (hg : goodWord w = true) : w ∈ gG := by
  have h := List.mem_of_getElem? h0
  exact gG_t (List.mem_append_right _ (List.mem_append_left _ (h))) hg
theorem gG_3 (i : Nat) {w : Cond} (h0 : tables_1_3[i]? = some w) (hg : goodWord w = true) : w ∈ gG := by
  have h := List.mem_of_getElem? h0
  exact gG_t (List.mem_append_right _ (List.mem_append_right _ (List.mem_append_left _ (h)))) hg
theorem gG_4 (i : Nat) {w : Cond} (h0 : tables_1_4[i]? = some w) (hg : goodWord w = true) : w ∈ gG := by
  have h := List.mem_of_getElem? h0
  exact gG_t (List.mem_append_right _ (List.mem_append_right _ (List.mem_append_right _ (List.mem_append_left _ (h))))) hg
theorem gG_5 (i : Nat) {w : Cond} (h0 : tables_1_5[i]? = some w) (hg : goodWord w = true) : w ∈ gG := by
  have h := List.mem_of_getElem? h0
  exact gG_t (List.mem_append_right _ (List.mem_append_right _ (List.mem_append_right _ (List.mem_append_right _ (List.mem_append_left _ (h)))))) hg
theorem gG_6 (i : Nat) {w : Cond} (h0 : tables_1_6[i]? = some w) (hg : goodWord w = true) : w ∈ gG := by
  have h := List.mem_of_getElem? h0
  exact gG_t (List.mem_append_right _ (List.mem_append_right _ (List.mem_append_right _ (List.mem_append_right _ (List.mem_append_right _ (h)))))) hg
theorem gw_1_0 : Cond.initialized RL ∈ gG := gG_1 0 rfl rfl
theorem gw_1_1 : Cond.initialized RX8 ∈ gG := gG_1 1 rfl rfl
theorem gw_1_2 : Cond.initialized RX6 ∈ gG := gG_1 2 rfl rfl
theorem gw_1_3 : Cond.initialized RX5 ∈ gG := gG_1 3 rfl rfl
theorem gw_1_4 : Cond.initialized RX3 ∈ gG := gG_1 4 rfl rfl
theorem gw_1_5 : Cond.initialized RJ7 ∈ gG := gG_1 5 rfl rfl
theorem gw_1_6 : Cond.initialized RX2 ∈ gG := gG_1 6 rfl rfl
theorem gw_1_7 : Cond.initialized RX0 ∈ gG := gG_1 7 rfl rfl
theorem gw_1_8 : Cond.initialized RX4 ∈ gG := gG_1 8 rfl rfl
theorem gw_1_9 : Cond.initialized RX1 ∈ gG := gG_1 9 rfl rfl
theorem gw_1_10 : Cond.initialized RX7 ∈ gG := gG_1 10 rfl rfl
theorem gw_1_11 : Cond.initialized RX9 ∈ gG := gG_1 11 rfl rfl
theorem gw_1_12 : Cond.initialized "java/lang/Throwable" ∈ gG := gG_1 12 rfl rfl
theorem gw_1_13 : Cond.initialized "java/lang/Exception" ∈ gG := gG_1 13 rfl rfl
theorem gw_1_14 : Cond.initialized "java/lang/RuntimeException" ∈ gG := gG_1 14 rfl rfl
theorem gw_1_15 : Cond.initialized "java/lang/IndexOutOfBoundsException" ∈ gG := gG_1 15 rfl rfl
theorem gw_1_16 : Cond.initialized "java/lang/IllegalArgumentException" ∈ gG := gG_1 16 rfl rfl
theorem gw_1_17 : Cond.initialized "java/lang/UnsupportedOperationException" ∈ gG := gG_1 17 rfl rfl
theorem gw_1_18 : Cond.initialized RJ9 ∈ gG := gG_1 18 rfl rfl
theorem gw_1_19 : Cond.initialized RJ10 ∈ gG := gG_1 19 rfl rfl
theorem gw_1_20 : Cond.initialized RJ0 ∈ gG := gG_1 20 rfl rfl
theorem gw_1_21 : Cond.initialized RJ1 ∈ gG := gG_1 21 rfl rfl
theorem gw_1_22 : Cond.initialized RJ3 ∈ gG := gG_1 22 rfl rfl
theorem gw_1_23 : Cond.initialized RJ2 ∈ gG := gG_1 23 rfl rfl
theorem gw_1_24 : Cond.classLink RL 8 RX8 ∈ gG := gG_1 24 rfl rfl
theorem gw_1_25 : Cond.instantiable RX8 11 ∈ gG := gG_1 25 rfl rfl
theorem gw_1_26 : Cond.methodLink RL 74 yX8_init ∈ gG := gG_1 26 rfl rfl
theorem gw_1_27 : Cond.instanceMethod yX8_init ∈ gG := gG_1 27 rfl rfl
theorem gw_1_28 : Cond.code yX8_init prog_1_method_1_code 1 none ∈ gG := gG_1 28 rfl rfl
theorem gw_1_29 : Cond.methodLink RX8 1 objectInit ∈ gG := gG_1 29 rfl rfl
theorem gw_1_30 : Cond.instanceMethod objectInit ∈ gG := gG_1 30 rfl rfl
theorem gw_1_31 : Cond.code objectInit object_method_1_code 1 none ∈ gG := gG_1 31 rfl rfl
theorem gw_1_32 : Cond.classLink RX8 7 RX6 ∈ gG := gG_1 32 rfl rfl
theorem gw_1_33 : Cond.instantiable RX6 2 ∈ gG := gG_1 33 rfl rfl
theorem gw_1_35 : Cond.instanceMethod yX6_init ∈ gG := gG_1 35 rfl rfl
theorem gw_1_36 : Cond.code yX6_init prog_8_method_1_code 1 none ∈ gG := gG_1 36 rfl rfl
theorem gw_1_37 : Cond.methodLink RX6 3 objectInit ∈ gG := gG_1 37 rfl rfl
theorem gw_1_38 : Cond.fieldLink RX6 11 "FestivalFields$Tape" "bytes" "[I" ∈ gG := gG_1 38 rfl rfl
theorem gw_1_39 : Cond.fieldLink RX6 15 "FestivalFields$Tape" "size" "I" ∈ gG := gG_1 39 rfl rfl
theorem gw_1_40 : Cond.fieldLink RX5 34 "FestivalFields$Tape" "size" "I" ∈ gG := gG_1 40 rfl rfl
theorem gw_1_41 : Cond.fieldLink RX8 79 "FestivalFields$Tape" "size" "I" ∈ gG := gG_1 41 rfl rfl
theorem gw_1_47 : Cond.arrayClass .int ∈ gG := gG_1 47 rfl rfl
theorem gw_1_48 : Cond.classLink RX8 16 RX5 ∈ gG := gG_1 48 rfl rfl
theorem gw_1_49 : Cond.instantiable RX5 3 ∈ gG := gG_1 49 rfl rfl
theorem gw_1_50 : Cond.methodLink RX8 18 yX5_init ∈ gG := gG_1 50 rfl rfl
theorem gw_1_51 : Cond.instanceMethod yX5_init ∈ gG := gG_1 51 rfl rfl
theorem gw_1_52 : Cond.code yX5_init prog_7_method_1_code 2 none ∈ gG := gG_1 52 rfl rfl
theorem gw_1_53 : Cond.methodLink RX5 3 objectInit ∈ gG := gG_1 53 rfl rfl
theorem gw_1_54 : Cond.fieldLink RX5 9 "FestivalFields$Reader" "tape" "LFestivalFields$Tape;" ∈ gG := gG_1 54 rfl rfl
theorem gw_1_55 : Cond.fieldLink RX5 15 "FestivalFields$Reader" "next" "I" ∈ gG := gG_1 55 rfl rfl
theorem gw_1_56 : Cond.fieldLink RX5 19 "FestivalFields$Reader" "wrong" "I" ∈ gG := gG_1 56 rfl rfl
theorem gw_1_64 : Cond.classLink RX8 25 RX3 ∈ gG := gG_1 64 rfl rfl
theorem gw_1_65 : Cond.instantiable RX3 4 ∈ gG := gG_1 65 rfl rfl
theorem gw_1_66 : Cond.methodLink RX8 27 yX3_init ∈ gG := gG_1 66 rfl rfl
theorem gw_1_67 : Cond.instanceMethod yX3_init ∈ gG := gG_1 67 rfl rfl
theorem gw_1_68 : Cond.code yX3_init prog_5_method_1_code 1 none ∈ gG := gG_1 68 rfl rfl
theorem gw_1_69 : Cond.methodLink RX3 3 objectInit ∈ gG := gG_1 69 rfl rfl
theorem gw_1_70 : Cond.methodLink RX3 15 yJ7_fill_53178 ∈ gG := gG_1 70 rfl rfl
theorem gw_1_71 : Cond.static yJ7_fill_53178 ∈ gG := gG_1 71 rfl rfl
theorem gw_1_72 : Cond.code yJ7_fill_53178 prog_23_method_103_code 4 none ∈ gG := gG_1 72 rfl rfl
theorem gw_1_73 : Cond.fieldLink RX3 11 "FestivalFields$Meadow" "squares" "[I" ∈ gG := gG_1 73 rfl rfl
theorem gw_1_74 : Cond.fieldLink RX8 111 "FestivalFields$Meadow" "squares" "[I" ∈ gG := gG_1 74 rfl rfl
theorem gw_1_75 : Cond.fieldLink RX8 90 "FestivalFields$Meadow" "gateSquare" "I" ∈ gG := gG_1 75 rfl rfl
theorem gw_1_76 : Cond.fieldLink RX3 42 "FestivalFields$Meadow" "gateSquare" "I" ∈ gG := gG_1 76 rfl rfl
theorem gw_1_77 : Cond.fieldLink RX3 25 "FestivalFields$Meadow" "tents" "I" ∈ gG := gG_1 77 rfl rfl
theorem gw_1_78 : Cond.fieldLink RX8 97 "FestivalFields$Meadow" "tents" "I" ∈ gG := gG_1 78 rfl rfl
theorem gw_1_79 : Cond.fieldLink RX3 29 "FestivalFields$Meadow" "standing" "I" ∈ gG := gG_1 79 rfl rfl
theorem gw_1_80 : Cond.fieldLink RX8 195 "FestivalFields$Meadow" "standing" "I" ∈ gG := gG_1 80 rfl rfl
theorem gw_1_90 : Cond.classLink RX8 32 RX2 ∈ gG := gG_1 90 rfl rfl
theorem gw_1_91 : Cond.instantiable RX2 13 ∈ gG := gG_1 91 rfl rfl
theorem gw_1_92 : Cond.methodLink RX8 34 yX2_init ∈ gG := gG_1 92 rfl rfl
theorem gw_1_93 : Cond.instanceMethod yX2_init ∈ gG := gG_1 93 rfl rfl
theorem gw_1_94 : Cond.code yX2_init prog_4_method_1_code 1 none ∈ gG := gG_1 94 rfl rfl
theorem gw_1_95 : Cond.methodLink RX2 3 objectInit ∈ gG := gG_1 95 rfl rfl
theorem gw_1_96 : Cond.classLink RX2 44 RX0 ∈ gG := gG_1 96 rfl rfl
theorem gw_1_97 : Cond.instantiable RX0 12 ∈ gG := gG_1 97 rfl rfl
theorem gw_1_99 : Cond.instanceMethod yX0_init ∈ gG := gG_1 99 rfl rfl
theorem gw_1_100 : Cond.code yX0_init prog_2_method_1_code 1 none ∈ gG := gG_1 100 rfl rfl
theorem gw_1_101 : Cond.methodLink RX0 5 objectInit ∈ gG := gG_1 101 rfl rfl
theorem gw_1_102 : Cond.fieldLink RX0 45 "FestivalFields$Escape" "ground" "LFestivalFields$Ground;" ∈ gG := gG_1 102 rfl rfl
theorem gw_1_103 : Cond.fieldLink RX0 53 "FestivalFields$Escape" "lastMinute" "I" ∈ gG := gG_1 103 rfl rfl
theorem gw_1_104 : Cond.fieldLink RX0 13 "FestivalFields$Escape" "begins" "[I" ∈ gG := gG_1 104 rfl rfl
theorem gw_1_105 : Cond.fieldLink RX0 17 "FestivalFields$Escape" "waits" "[I" ∈ gG := gG_1 105 rfl rfl
theorem gw_1_106 : Cond.fieldLink RX0 20 "FestivalFields$Escape" "totals" "[I" ∈ gG := gG_1 106 rfl rfl
theorem gw_1_107 : Cond.fieldLink RX0 23 "FestivalFields$Escape" "unsent" "[I" ∈ gG := gG_1 107 rfl rfl
theorem gw_1_108 : Cond.fieldLink RX0 26 "FestivalFields$Escape" "gateRoom" "[I" ∈ gG := gG_1 108 rfl rfl
theorem gw_1_109 : Cond.fieldLink RX0 29 "FestivalFields$Escape" "latest" "[I" ∈ gG := gG_1 109 rfl rfl
theorem gw_1_110 : Cond.fieldLink RX0 32 "FestivalFields$Escape" "isNew" "[Z" ∈ gG := gG_1 110 rfl rfl
theorem gw_1_111 : Cond.fieldLink RX0 36 "FestivalFields$Escape" "steps" "[I" ∈ gG := gG_1 111 rfl rfl
theorem gw_1_112 : Cond.fieldLink RX0 39 "FestivalFields$Escape" "nextMinutes" "[I" ∈ gG := gG_1 112 rfl rfl
theorem gw_1_113 : Cond.fieldLink RX0 42 "FestivalFields$Escape" "rooms" "[I" ∈ gG := gG_1 113 rfl rfl
theorem gw_1_139 : Cond.arrayClass .boolean ∈ gG := gG_1 139 rfl rfl
theorem gw_1_140 : Cond.fieldLink RX2 11 "FestivalFields$Ground" "crowds" "[I" ∈ gG := gG_1 140 rfl rfl
theorem gw_1_141 : Cond.fieldLink RX0 78 "FestivalFields$Ground" "crowds" "[I" ∈ gG := gG_1 141 rfl rfl
theorem gw_1_142 : Cond.fieldLink RX2 15 "FestivalFields$Ground" "rates" "[I" ∈ gG := gG_1 142 rfl rfl
theorem gw_1_143 : Cond.fieldLink RX0 85 "FestivalFields$Ground" "rates" "[I" ∈ gG := gG_1 143 rfl rfl
theorem gw_1_144 : Cond.fieldLink RX2 18 "FestivalFields$Ground" "closed" "[Z" ∈ gG := gG_1 144 rfl rfl
theorem gw_1_145 : Cond.fieldLink RX2 51 "FestivalFields$Ground" "places" "I" ∈ gG := gG_1 145 rfl rfl
theorem gw_1_146 : Cond.fieldLink RX0 75 "FestivalFields$Ground" "places" "I" ∈ gG := gG_1 146 rfl rfl
theorem gw_1_147 : Cond.fieldLink RX8 114 "FestivalFields$Ground" "places" "I" ∈ gG := gG_1 147 rfl rfl
theorem gw_1_148 : Cond.fieldLink RX2 22 "FestivalFields$Ground" "heads" "[I" ∈ gG := gG_1 148 rfl rfl
theorem gw_1_149 : Cond.fieldLink RX0 103 "FestivalFields$Ground" "heads" "[I" ∈ gG := gG_1 149 rfl rfl
theorem gw_1_150 : Cond.fieldLink RX2 25 "FestivalFields$Ground" "lengths" "[I" ∈ gG := gG_1 150 rfl rfl
theorem gw_1_151 : Cond.fieldLink RX0 123 "FestivalFields$Ground" "lengths" "[I" ∈ gG := gG_1 151 rfl rfl
theorem gw_1_152 : Cond.fieldLink RX2 28 "FestivalFields$Ground" "wides" "[I" ∈ gG := gG_1 152 rfl rfl
theorem gw_1_153 : Cond.fieldLink RX0 126 "FestivalFields$Ground" "wides" "[I" ∈ gG := gG_1 153 rfl rfl
theorem gw_1_154 : Cond.fieldLink RX8 143 "FestivalFields$Ground" "wides" "[I" ∈ gG := gG_1 154 rfl rfl
theorem gw_1_155 : Cond.fieldLink RX2 57 "FestivalFields$Ground" "ways" "I" ∈ gG := gG_1 155 rfl rfl
theorem gw_1_156 : Cond.fieldLink RX8 129 "FestivalFields$Ground" "ways" "I" ∈ gG := gG_1 156 rfl rfl
theorem gw_1_157 : Cond.fieldLink RX2 31 "FestivalFields$Ground" "arcsFrom" "[I" ∈ gG := gG_1 157 rfl rfl
theorem gw_1_158 : Cond.fieldLink RX0 100 "FestivalFields$Ground" "arcsFrom" "[I" ∈ gG := gG_1 158 rfl rfl
theorem gw_1_159 : Cond.fieldLink RX2 34 "FestivalFields$Ground" "arcCounts" "[I" ∈ gG := gG_1 159 rfl rfl
theorem gw_1_160 : Cond.fieldLink RX0 97 "FestivalFields$Ground" "arcCounts" "[I" ∈ gG := gG_1 160 rfl rfl
theorem gw_1_161 : Cond.fieldLink RX2 47 "FestivalFields$Ground" "escape" "LFestivalFields$Escape;" ∈ gG := gG_1 161 rfl rfl
theorem gw_1_162 : Cond.fieldLink RX2 37 "FestivalFields$Ground" "knownEmpty" "I" ∈ gG := gG_1 162 rfl rfl
theorem gw_1_163 : Cond.fieldLink RX2 41 "FestivalFields$Ground" "knownWorst" "I" ∈ gG := gG_1 163 rfl rfl
theorem gw_1_191 : Cond.classLink RX8 39 RX4 ∈ gG := gG_1 191 rfl rfl
theorem gw_1_192 : Cond.instantiable RX4 10 ∈ gG := gG_1 192 rfl rfl
theorem gw_1_194 : Cond.instanceMethod yX4_init ∈ gG := gG_1 194 rfl rfl
theorem gw_1_195 : Cond.code yX4_init prog_6_method_1_code 1 none ∈ gG := gG_1 195 rfl rfl
theorem gw_1_196 : Cond.methodLink RX4 3 objectInit ∈ gG := gG_1 196 rfl rfl
theorem gw_1_197 : Cond.fieldLink RX4 11 "FestivalFields$Programme" "arcs" "[I" ∈ gG := gG_1 197 rfl rfl
theorem gw_1_198 : Cond.fieldLink RX4 15 "FestivalFields$Programme" "wides" "[I" ∈ gG := gG_1 198 rfl rfl
theorem gw_1_199 : Cond.fieldLink RX4 18 "FestivalFields$Programme" "ends" "[I" ∈ gG := gG_1 199 rfl rfl
theorem gw_1_200 : Cond.fieldLink RX4 21 "FestivalFields$Programme" "peoples" "[I" ∈ gG := gG_1 200 rfl rfl
theorem gw_1_201 : Cond.fieldLink RX4 30 "FestivalFields$Programme" "acts" "I" ∈ gG := gG_1 201 rfl rfl
theorem gw_1_202 : Cond.fieldLink RX8 155 "FestivalFields$Programme" "acts" "I" ∈ gG := gG_1 202 rfl rfl
theorem gw_1_203 : Cond.fieldLink RX4 24 "FestivalFields$Programme" "shifts" "[I" ∈ gG := gG_1 203 rfl rfl
theorem gw_1_204 : Cond.fieldLink RX4 27 "FestivalFields$Programme" "bestShifts" "[I" ∈ gG := gG_1 204 rfl rfl
theorem gw_1_205 : Cond.fieldLink RX8 158 "FestivalFields$Programme" "bestShifts" "[I" ∈ gG := gG_1 205 rfl rfl
theorem gw_1_206 : Cond.fieldLink RX4 41 "FestivalFields$Programme" "bestOver" "I" ∈ gG := gG_1 206 rfl rfl
theorem gw_1_207 : Cond.fieldLink RX8 152 "FestivalFields$Programme" "bestOver" "I" ∈ gG := gG_1 207 rfl rfl
theorem gw_1_208 : Cond.fieldLink RX4 44 "FestivalFields$Programme" "bestSum" "I" ∈ gG := gG_1 208 rfl rfl
theorem gw_1_209 : Cond.fieldLink RX4 34 "FestivalFields$Programme" "isKnown" "Z" ∈ gG := gG_1 209 rfl rfl
theorem gw_1_231 : Cond.classLink RX8 46 RX1 ∈ gG := gG_1 231 rfl rfl
theorem gw_1_232 : Cond.instantiable RX1 6 ∈ gG := gG_1 232 rfl rfl
theorem gw_1_234 : Cond.instanceMethod yX1_init ∈ gG := gG_1 234 rfl rfl
theorem gw_1_235 : Cond.code yX1_init prog_3_method_1_code 1 none ∈ gG := gG_1 235 rfl rfl
theorem gw_1_236 : Cond.methodLink RX1 3 objectInit ∈ gG := gG_1 236 rfl rfl
theorem gw_1_237 : Cond.fieldLink RX1 11 "FestivalFields$GateBook" "bands" "[I" ∈ gG := gG_1 237 rfl rfl
theorem gw_1_238 : Cond.fieldLink RX1 15 "FestivalFields$GateBook" "goesIn" "[Z" ∈ gG := gG_1 238 rfl rfl
theorem gw_1_239 : Cond.fieldLink RX1 19 "FestivalFields$GateBook" "minutes" "[I" ∈ gG := gG_1 239 rfl rfl
theorem gw_2_0 : Cond.fieldLink RX1 22 "FestivalFields$GateBook" "tolds" "[I" ∈ gG := gG_2 0 rfl rfl
theorem gw_2_1 : Cond.fieldLink RX1 25 "FestivalFields$GateBook" "order" "[I" ∈ gG := gG_2 1 rfl rfl
theorem gw_2_2 : Cond.fieldLink RX1 28 "FestivalFields$GateBook" "passes" "I" ∈ gG := gG_2 2 rfl rfl
theorem gw_2_3 : Cond.fieldLink RX8 204 "FestivalFields$GateBook" "passes" "I" ∈ gG := gG_2 3 rfl rfl
theorem gw_2_17 : Cond.classLink RX8 57 RX7 ∈ gG := gG_2 17 rfl rfl
theorem gw_2_18 : Cond.instantiable RX7 5 ∈ gG := gG_2 18 rfl rfl
theorem gw_2_20 : Cond.instanceMethod yX7_init ∈ gG := gG_2 20 rfl rfl
theorem gw_2_21 : Cond.code yX7_init prog_9_method_1_code 1 none ∈ gG := gG_2 21 rfl rfl
theorem gw_2_22 : Cond.methodLink RX7 1 objectInit ∈ gG := gG_2 22 rfl rfl
theorem gw_2_23 : Cond.fieldLink RX7 9 "FestivalFields$Terms" "kinds" "[I" ∈ gG := gG_2 23 rfl rfl
theorem gw_2_24 : Cond.fieldLink RX8 213 "FestivalFields$Terms" "kinds" "[I" ∈ gG := gG_2 24 rfl rfl
theorem gw_2_25 : Cond.fieldLink RX7 13 "FestivalFields$Terms" "mosts" "[I" ∈ gG := gG_2 25 rfl rfl
theorem gw_2_26 : Cond.fieldLink RX8 210 "FestivalFields$Terms" "mosts" "[I" ∈ gG := gG_2 26 rfl rfl
theorem gw_2_27 : Cond.fieldLink RX7 16 "FestivalFields$Terms" "firstHours" "[I" ∈ gG := gG_2 27 rfl rfl
theorem gw_2_28 : Cond.fieldLink RX8 220 "FestivalFields$Terms" "firstHours" "[I" ∈ gG := gG_2 28 rfl rfl
theorem gw_2_29 : Cond.fieldLink RX7 19 "FestivalFields$Terms" "lastHours" "[I" ∈ gG := gG_2 29 rfl rfl
theorem gw_2_30 : Cond.fieldLink RX8 223 "FestivalFields$Terms" "lastHours" "[I" ∈ gG := gG_2 30 rfl rfl
theorem gw_2_31 : Cond.fieldLink RX7 22 "FestivalFields$Terms" "size" "I" ∈ gG := gG_2 31 rfl rfl
theorem gw_2_32 : Cond.fieldLink RX5 22 "FestivalFields$Terms" "size" "I" ∈ gG := gG_2 32 rfl rfl
theorem gw_2_33 : Cond.fieldLink RX8 191 "FestivalFields$Terms" "size" "I" ∈ gG := gG_2 33 rfl rfl
theorem gw_2_45 : Cond.fieldLink RX8 10 "FestivalFields" "tape" "LFestivalFields$Tape;" ∈ gG := gG_2 45 rfl rfl
theorem gw_2_46 : Cond.fieldLink RX8 21 "FestivalFields" "reader" "LFestivalFields$Reader;" ∈ gG := gG_2 46 rfl rfl
theorem gw_2_47 : Cond.fieldLink RX8 28 "FestivalFields" "meadow" "LFestivalFields$Meadow;" ∈ gG := gG_2 47 rfl rfl
theorem gw_2_48 : Cond.fieldLink RX8 35 "FestivalFields" "ground" "LFestivalFields$Ground;" ∈ gG := gG_2 48 rfl rfl
theorem gw_2_49 : Cond.fieldLink RX8 42 "FestivalFields" "programme" "LFestivalFields$Programme;" ∈ gG := gG_2 49 rfl rfl
theorem gw_2_50 : Cond.fieldLink RX8 49 "FestivalFields" "book" "LFestivalFields$GateBook;" ∈ gG := gG_2 50 rfl rfl
theorem gw_2_51 : Cond.fieldLink RX8 53 "FestivalFields" "loudness" "[I" ∈ gG := gG_2 51 rfl rfl
theorem gw_2_52 : Cond.fieldLink RX8 60 "FestivalFields" "terms" "LFestivalFields$Terms;" ∈ gG := gG_2 52 rfl rfl
theorem gw_2_53 : Cond.fieldLink RX8 64 "FestivalFields" "spareTerms" "LFestivalFields$Terms;" ∈ gG := gG_2 53 rfl rfl
theorem gw_2_54 : Cond.fieldLink RX8 164 "FestivalFields" "now" "I" ∈ gG := gG_2 54 rfl rfl
theorem gw_2_55 : Cond.fieldLink RX8 67 "FestivalFields" "wrongByte" "I" ∈ gG := gG_2 55 rfl rfl
theorem gw_2_79 : Cond.methodLink RL 78 yX8_feed ∈ gG := gG_2 79 rfl rfl
theorem gw_2_80 : Cond.instanceMethod yX8_feed ∈ gG := gG_2 80 rfl rfl
theorem gw_2_81 : Cond.selects RX8 yX8_feed yX8_feed ∈ gG := gG_2 81 rfl rfl
theorem gw_2_82 : Cond.code yX8_feed prog_1_method_2_code 6 (some .int) ∈ gG := gG_2 82 rfl rfl
theorem gw_2_83 : Cond.methodLink RX8 71 yX6_hasRoom ∈ gG := gG_2 83 rfl rfl
theorem gw_2_84 : Cond.instanceMethod yX6_hasRoom ∈ gG := gG_2 84 rfl rfl
theorem gw_2_85 : Cond.selects RX6 yX6_hasRoom yX6_hasRoom ∈ gG := gG_2 85 rfl rfl
theorem gw_2_86 : Cond.code yX6_hasRoom prog_8_method_2_code 1 (some .boolean) ∈ gG := gG_2 86 rfl rfl
theorem gw_2_87 : Cond.methodLink RX8 75 yX6_append ∈ gG := gG_2 87 rfl rfl
theorem gw_2_88 : Cond.instanceMethod yX6_append ∈ gG := gG_2 88 rfl rfl
theorem gw_2_89 : Cond.selects RX6 yX6_append yX6_append ∈ gG := gG_2 89 rfl rfl
theorem gw_2_90 : Cond.code yX6_append prog_8_method_3_code 3 none ∈ gG := gG_2 90 rfl rfl
theorem gw_2_91 : Cond.methodLink RL 83 yX8_end ∈ gG := gG_2 91 rfl rfl
theorem gw_2_92 : Cond.instanceMethod yX8_end ∈ gG := gG_2 92 rfl rfl
theorem gw_2_93 : Cond.selects RX8 yX8_end yX8_end ∈ gG := gG_2 93 rfl rfl
theorem gw_2_94 : Cond.code yX8_end prog_1_method_3_code 2 (some .boolean) ∈ gG := gG_2 94 rfl rfl
theorem gw_2_95 : Cond.methodLink RL 125 yX8_empty ∈ gG := gG_2 95 rfl rfl
theorem gw_2_96 : Cond.instanceMethod yX8_empty ∈ gG := gG_2 96 rfl rfl
theorem gw_2_97 : Cond.selects RX8 yX8_empty yX8_empty ∈ gG := gG_2 97 rfl rfl
theorem gw_2_98 : Cond.code yX8_empty prog_1_method_13_code 1 (some .int) ∈ gG := gG_2 98 rfl rfl
theorem gw_2_99 : Cond.methodLink RX8 136 yX2_leastMinutes ∈ gG := gG_2 99 rfl rfl
theorem gw_2_100 : Cond.instanceMethod yX2_leastMinutes ∈ gG := gG_2 100 rfl rfl
theorem gw_2_101 : Cond.selects RX2 yX2_leastMinutes yX2_leastMinutes ∈ gG := gG_2 101 rfl rfl
theorem gw_2_102 : Cond.code yX2_leastMinutes prog_4_method_8_code 1 (some .int) ∈ gG := gG_2 102 rfl rfl
theorem gw_2_103 : Cond.methodLink RX2 64 yX0_fewestMinutes ∈ gG := gG_2 103 rfl rfl
theorem gw_2_104 : Cond.instanceMethod yX0_fewestMinutes ∈ gG := gG_2 104 rfl rfl
theorem gw_2_105 : Cond.selects RX0 yX0_fewestMinutes yX0_fewestMinutes ∈ gG := gG_2 105 rfl rfl
theorem gw_2_106 : Cond.code yX0_fewestMinutes prog_2_method_2_code 7 (some .int) ∈ gG := gG_2 106 rfl rfl
theorem gw_2_107 : Cond.methodLink RX0 49 yX0_startAnew ∈ gG := gG_2 107 rfl rfl
theorem gw_2_109 : Cond.instanceMethod yX0_startAnew ∈ gG := gG_2 109 rfl rfl
theorem gw_2_110 : Cond.code yX0_startAnew prog_2_method_3_code 3 (some .int) ∈ gG := gG_2 110 rfl rfl
theorem gw_2_111 : Cond.methodLink RX0 69 yJ7_fill_53178 ∈ gG := gG_2 111 rfl rfl
theorem gw_2_112 : Cond.methodLink RX0 57 yX0_openGates ∈ gG := gG_2 112 rfl rfl
theorem gw_2_114 : Cond.instanceMethod yX0_openGates ∈ gG := gG_2 114 rfl rfl
theorem gw_2_115 : Cond.code yX0_openGates prog_2_method_4_code 4 none ∈ gG := gG_2 115 rfl rfl
theorem gw_2_116 : Cond.methodLink RX0 81 yX2_isOpen ∈ gG := gG_2 116 rfl rfl
theorem gw_2_117 : Cond.instanceMethod yX2_isOpen ∈ gG := gG_2 117 rfl rfl
theorem gw_2_118 : Cond.selects RX2 yX2_isOpen yX2_isOpen ∈ gG := gG_2 118 rfl rfl
theorem gw_2_119 : Cond.code yX2_isOpen prog_4_method_7_code 2 (some .boolean) ∈ gG := gG_2 119 rfl rfl
theorem gw_2_120 : Cond.methodLink RX0 61 yX0_findStart ∈ gG := gG_2 120 rfl rfl
theorem gw_2_122 : Cond.instanceMethod yX0_findStart ∈ gG := gG_2 122 rfl rfl
theorem gw_2_123 : Cond.code yX0_findStart prog_2_method_5_code 7 (some .int) ∈ gG := gG_2 123 rfl rfl
theorem gw_2_124 : Cond.methodLink RX0 88 yX0_reachGates ∈ gG := gG_2 124 rfl rfl
theorem gw_2_126 : Cond.instanceMethod yX0_reachGates ∈ gG := gG_2 126 rfl rfl
theorem gw_2_127 : Cond.code yX0_reachGates prog_2_method_6_code 3 (some .int) ∈ gG := gG_2 127 rfl rfl
theorem gw_2_128 : Cond.methodLink RX0 113 yX0_reach ∈ gG := gG_2 128 rfl rfl
theorem gw_2_130 : Cond.instanceMethod yX0_reach ∈ gG := gG_2 130 rfl rfl
theorem gw_2_131 : Cond.code yX0_reach prog_2_method_12_code 7 none ∈ gG := gG_2 131 rfl rfl
theorem gw_2_132 : Cond.methodLink RX0 91 yX0_latestNew ∈ gG := gG_2 132 rfl rfl
theorem gw_2_134 : Cond.instanceMethod yX0_latestNew ∈ gG := gG_2 134 rfl rfl
theorem gw_2_135 : Cond.code yX0_latestNew prog_2_method_7_code 4 (some .int) ∈ gG := gG_2 135 rfl rfl
theorem gw_2_136 : Cond.methodLink RX0 94 yX0_reachByWaitingLess ∈ gG := gG_2 136 rfl rfl
theorem gw_2_138 : Cond.instanceMethod yX0_reachByWaitingLess ∈ gG := gG_2 138 rfl rfl
theorem gw_2_139 : Cond.code yX0_reachByWaitingLess prog_2_method_8_code 5 none ∈ gG := gG_2 139 rfl rfl
theorem gw_2_140 : Cond.methodLink RX0 117 Lib.Math.min.name ∈ gG := gG_2 140 rfl rfl
theorem gw_2_141 : Cond.static Lib.Math.min.name ∈ gG := gG_2 141 rfl rfl
theorem gw_2_142 : Cond.code Lib.Math.min.name prog_15_method_69_code 2 (some .int) ∈ gG := gG_2 142 rfl rfl
theorem gw_2_143 : Cond.methodLink RX0 106 yX0_reachByArc ∈ gG := gG_2 143 rfl rfl
theorem gw_2_145 : Cond.instanceMethod yX0_reachByArc ∈ gG := gG_2 145 rfl rfl
theorem gw_2_146 : Cond.code yX0_reachByArc prog_2_method_9_code 9 none ∈ gG := gG_2 146 rfl rfl
theorem gw_2_147 : Cond.methodLink RX0 129 yX0_goesOnAt ∈ gG := gG_2 147 rfl rfl
theorem gw_2_149 : Cond.instanceMethod yX0_goesOnAt ∈ gG := gG_2 149 rfl rfl
theorem gw_2_150 : Cond.code yX0_goesOnAt prog_2_method_11_code 4 (some .int) ∈ gG := gG_2 150 rfl rfl
theorem gw_2_151 : Cond.methodLink RX0 110 yX0_reachByUndoing ∈ gG := gG_2 151 rfl rfl
theorem gw_2_153 : Cond.instanceMethod yX0_reachByUndoing ∈ gG := gG_2 153 rfl rfl
theorem gw_2_154 : Cond.code yX0_reachByUndoing prog_2_method_10_code 9 none ∈ gG := gG_2 154 rfl rfl
theorem gw_2_155 : Cond.methodLink RX0 132 Lib.Math.max.name ∈ gG := gG_2 155 rfl rfl
theorem gw_2_156 : Cond.static Lib.Math.max.name ∈ gG := gG_2 156 rfl rfl
theorem gw_2_157 : Cond.code Lib.Math.max.name prog_15_method_65_code 2 (some .int) ∈ gG := gG_2 157 rfl rfl
theorem gw_2_158 : Cond.constant RX0 64 (1000000) ∈ gG := gG_2 158 rfl rfl
theorem gw_2_159 : Cond.methodLink RX0 65 yX0_sendFrom ∈ gG := gG_2 159 rfl rfl
theorem gw_2_161 : Cond.instanceMethod yX0_sendFrom ∈ gG := gG_2 161 rfl rfl
theorem gw_2_162 : Cond.code yX0_sendFrom prog_2_method_13_code 10 (some .int) ∈ gG := gG_2 162 rfl rfl
theorem gw_2_163 : Cond.methodLink RX0 135 yX0_letWait ∈ gG := gG_2 163 rfl rfl
theorem gw_2_165 : Cond.instanceMethod yX0_letWait ∈ gG := gG_2 165 rfl rfl
theorem gw_2_166 : Cond.code yX0_letWait prog_2_method_16_code 6 none ∈ gG := gG_2 166 rfl rfl
theorem gw_2_167 : Cond.methodLink RX0 139 yX0_takeArc ∈ gG := gG_2 167 rfl rfl
theorem gw_2_169 : Cond.instanceMethod yX0_takeArc ∈ gG := gG_2 169 rfl rfl
theorem gw_2_170 : Cond.code yX0_takeArc prog_2_method_14_code 4 (some .int) ∈ gG := gG_2 170 rfl rfl
theorem gw_2_171 : Cond.methodLink RX0 143 yX0_undoArc ∈ gG := gG_2 171 rfl rfl
theorem gw_2_173 : Cond.instanceMethod yX0_undoArc ∈ gG := gG_2 173 rfl rfl
theorem gw_2_174 : Cond.code yX0_undoArc prog_2_method_15_code 5 (some .int) ∈ gG := gG_2 174 rfl rfl
theorem gw_2_175 : Cond.methodLink RL 129 yX8_worst ∈ gG := gG_2 175 rfl rfl
theorem gw_2_176 : Cond.instanceMethod yX8_worst ∈ gG := gG_2 176 rfl rfl
theorem gw_2_177 : Cond.selects RX8 yX8_worst yX8_worst ∈ gG := gG_2 177 rfl rfl
theorem gw_2_178 : Cond.code yX8_worst prog_1_method_14_code 1 (some .int) ∈ gG := gG_2 178 rfl rfl
theorem gw_2_179 : Cond.methodLink RX8 140 yX2_worstMinutes ∈ gG := gG_2 179 rfl rfl
theorem gw_2_180 : Cond.instanceMethod yX2_worstMinutes ∈ gG := gG_2 180 rfl rfl
theorem gw_2_181 : Cond.selects RX2 yX2_worstMinutes yX2_worstMinutes ∈ gG := gG_2 181 rfl rfl
theorem gw_2_182 : Cond.code yX2_worstMinutes prog_4_method_9_code 4 (some .int) ∈ gG := gG_2 182 rfl rfl
theorem gw_2_183 : Cond.methodLink RX2 68 yX2_isOpen ∈ gG := gG_2 183 rfl rfl
theorem gw_2_184 : Cond.methodLink RX2 72 Lib.Math.max.name ∈ gG := gG_2 184 rfl rfl
theorem gw_2_185 : Cond.methodLink RL 137 yX8_tooMany ∈ gG := gG_2 185 rfl rfl
theorem gw_2_186 : Cond.instanceMethod yX8_tooMany ∈ gG := gG_2 186 rfl rfl
theorem gw_2_187 : Cond.selects RX8 yX8_tooMany yX8_tooMany ∈ gG := gG_2 187 rfl rfl
theorem gw_2_188 : Cond.code yX8_tooMany prog_1_method_16_code 1 (some .int) ∈ gG := gG_2 188 rfl rfl
theorem gw_2_189 : Cond.methodLink RX8 149 yX4_findBest ∈ gG := gG_2 189 rfl rfl
theorem gw_2_190 : Cond.instanceMethod yX4_findBest ∈ gG := gG_2 190 rfl rfl
theorem gw_2_191 : Cond.selects RX4 yX4_findBest yX4_findBest ∈ gG := gG_2 191 rfl rfl
theorem gw_2_192 : Cond.code yX4_findBest prog_6_method_4_code 1 none ∈ gG := gG_2 192 rfl rfl
theorem gw_2_193 : Cond.constant RX4 40 (2147483647) ∈ gG := gG_2 193 rfl rfl
theorem gw_2_194 : Cond.methodLink RX4 47 yX4_tryShifts ∈ gG := gG_2 194 rfl rfl
theorem gw_2_196 : Cond.instanceMethod yX4_tryShifts ∈ gG := gG_2 196 rfl rfl
theorem gw_2_197 : Cond.code yX4_tryShifts prog_6_method_5_code 5 none ∈ gG := gG_2 197 rfl rfl
theorem gw_2_198 : Cond.methodLink RX4 51 arraycopyName ∈ gG := gG_2 198 rfl rfl
theorem gw_2_199 : Cond.static arraycopyName ∈ gG := gG_2 199 rfl rfl
theorem gw_2_200 : Cond.native arraycopyName ∈ gG := gG_2 200 rfl rfl
theorem gw_2_201 : Cond.methodLink RX4 57 yX4_addedOver ∈ gG := gG_2 201 rfl rfl
theorem gw_2_203 : Cond.instanceMethod yX4_addedOver ∈ gG := gG_2 203 rfl rfl
theorem gw_2_204 : Cond.code yX4_addedOver prog_6_method_6_code 6 (some .int) ∈ gG := gG_2 204 rfl rfl
theorem gw_2_205 : Cond.methodLink RX4 61 yX4_sentBefore ∈ gG := gG_2 205 rfl rfl
theorem gw_2_207 : Cond.instanceMethod yX4_sentBefore ∈ gG := gG_2 207 rfl rfl
theorem gw_2_208 : Cond.code yX4_sentBefore prog_6_method_7_code 6 (some .int) ∈ gG := gG_2 208 rfl rfl
theorem gw_2_209 : Cond.methodLink RX4 65 Lib.Math.max.name ∈ gG := gG_2 209 rfl rfl
theorem gw_2_210 : Cond.methodLink RL 144 yX8_forget ∈ gG := gG_2 210 rfl rfl
theorem gw_2_211 : Cond.instanceMethod yX8_forget ∈ gG := gG_2 211 rfl rfl
theorem gw_2_212 : Cond.selects RX8 yX8_forget yX8_forget ∈ gG := gG_2 212 rfl rfl
theorem gw_2_213 : Cond.code yX8_forget prog_1_method_18_code 1 (some .int) ∈ gG := gG_2 213 rfl rfl
theorem gw_2_214 : Cond.methodLink RX8 161 yX4_dropActs ∈ gG := gG_2 214 rfl rfl
theorem gw_2_215 : Cond.instanceMethod yX4_dropActs ∈ gG := gG_2 215 rfl rfl
theorem gw_2_216 : Cond.selects RX4 yX4_dropActs yX4_dropActs ∈ gG := gG_2 216 rfl rfl
theorem gw_2_217 : Cond.code yX4_dropActs prog_6_method_3_code 2 (some .int) ∈ gG := gG_2 217 rfl rfl
theorem gw_2_218 : Cond.methodLink RL 159 yX8_within ∈ gG := gG_2 218 rfl rfl
theorem gw_2_219 : Cond.instanceMethod yX8_within ∈ gG := gG_2 219 rfl rfl
theorem gw_2_220 : Cond.selects RX8 yX8_within yX8_within ∈ gG := gG_2 220 rfl rfl
theorem gw_2_221 : Cond.code yX8_within prog_1_method_22_code 4 (some .int) ∈ gG := gG_2 221 rfl rfl
theorem gw_2_222 : Cond.methodLink RX8 180 yX1_oddPasses ∈ gG := gG_2 222 rfl rfl
theorem gw_2_223 : Cond.instanceMethod yX1_oddPasses ∈ gG := gG_2 223 rfl rfl
theorem gw_2_224 : Cond.selects RX1 yX1_oddPasses yX1_oddPasses ∈ gG := gG_2 224 rfl rfl
theorem gw_2_225 : Cond.code yX1_oddPasses prog_3_method_5_code 7 (some .int) ∈ gG := gG_2 225 rfl rfl
theorem gw_2_226 : Cond.methodLink RX8 184 yX1_bandsInside ∈ gG := gG_2 226 rfl rfl
theorem gw_2_227 : Cond.instanceMethod yX1_bandsInside ∈ gG := gG_2 227 rfl rfl
theorem gw_2_228 : Cond.selects RX1 yX1_bandsInside yX1_bandsInside ∈ gG := gG_2 228 rfl rfl
theorem gw_2_229 : Cond.code yX1_bandsInside prog_3_method_4_code 8 (some .int) ∈ gG := gG_2 229 rfl rfl
theorem gw_2_230 : Cond.methodLink RL 171 yX8_fault ∈ gG := gG_2 230 rfl rfl
theorem gw_2_231 : Cond.instanceMethod yX8_fault ∈ gG := gG_2 231 rfl rfl
theorem gw_2_232 : Cond.selects RX8 yX8_fault yX8_fault ∈ gG := gG_2 232 rfl rfl
theorem gw_2_233 : Cond.code yX8_fault prog_1_method_25_code 1 (some .int) ∈ gG := gG_2 233 rfl rfl
theorem gw_2_234 : Cond.methodLink RL 175 yX8_broken ∈ gG := gG_2 234 rfl rfl
theorem gw_2_235 : Cond.instanceMethod yX8_broken ∈ gG := gG_2 235 rfl rfl
theorem gw_2_236 : Cond.selects RX8 yX8_broken yX8_broken ∈ gG := gG_2 236 rfl rfl
theorem gw_2_237 : Cond.code yX8_broken prog_1_method_26_code 2 (some .int) ∈ gG := gG_2 237 rfl rfl
theorem gw_2_238 : Cond.methodLink RX8 192 yX8_holds ∈ gG := gG_2 238 rfl rfl
theorem gw_3_0 : Cond.instanceMethod yX8_holds ∈ gG := gG_3 0 rfl rfl
theorem gw_3_1 : Cond.code yX8_holds prog_1_method_28_code 3 (some .boolean) ∈ gG := gG_3 1 rfl rfl
theorem gw_3_2 : Cond.methodLink RX8 201 yX2_allCrowd ∈ gG := gG_3 2 rfl rfl
theorem gw_3_3 : Cond.instanceMethod yX2_allCrowd ∈ gG := gG_3 3 rfl rfl
theorem gw_3_4 : Cond.selects RX2 yX2_allCrowd yX2_allCrowd ∈ gG := gG_3 4 rfl rfl
theorem gw_3_5 : Cond.code yX2_allCrowd prog_4_method_6_code 3 (some .int) ∈ gG := gG_3 5 rfl rfl
theorem gw_3_6 : Cond.methodLink RX8 216 yX8_isAtMost ∈ gG := gG_3 6 rfl rfl
theorem gw_3_7 : Cond.static yX8_isAtMost ∈ gG := gG_3 7 rfl rfl
theorem gw_3_8 : Cond.code yX8_isAtMost prog_1_method_30_code 2 (some .boolean) ∈ gG := gG_3 8 rfl rfl
theorem gw_3_9 : Cond.methodLink RX8 226 yX8_isQuiet ∈ gG := gG_3 9 rfl rfl
theorem gw_3_11 : Cond.instanceMethod yX8_isQuiet ∈ gG := gG_3 11 rfl rfl
theorem gw_3_12 : Cond.code yX8_isQuiet prog_1_method_29_code 5 (some .boolean) ∈ gG := gG_3 12 rfl rfl
theorem gw_3_13 : Cond.methodLink RL 179 yX8_count ∈ gG := gG_3 13 rfl rfl
theorem gw_3_14 : Cond.instanceMethod yX8_count ∈ gG := gG_3 14 rfl rfl
theorem gw_3_15 : Cond.selects RX8 yX8_count yX8_count ∈ gG := gG_3 15 rfl rfl
theorem gw_3_16 : Cond.code yX8_count prog_1_method_27_code 2 (some .int) ∈ gG := gG_3 16 rfl rfl
theorem gw_3_17 : Cond.methodLink RX8 198 yX3_squaresWithTent ∈ gG := gG_3 17 rfl rfl
theorem gw_3_18 : Cond.instanceMethod yX3_squaresWithTent ∈ gG := gG_3 18 rfl rfl
theorem gw_3_19 : Cond.selects RX3 yX3_squaresWithTent yX3_squaresWithTent ∈ gG := gG_3 19 rfl rfl
theorem gw_3_20 : Cond.code yX3_squaresWithTent prog_5_method_5_code 3 (some .int) ∈ gG := gG_3 20 rfl rfl
theorem gw_3_21 : Cond.methodLink RX8 207 yX3_laneSquares ∈ gG := gG_3 21 rfl rfl
theorem gw_3_22 : Cond.instanceMethod yX3_laneSquares ∈ gG := gG_3 22 rfl rfl
theorem gw_3_23 : Cond.selects RX3 yX3_laneSquares yX3_laneSquares ∈ gG := gG_3 23 rfl rfl
theorem gw_3_24 : Cond.code yX3_laneSquares prog_5_method_6_code 3 (some .int) ∈ gG := gG_3 24 rfl rfl
theorem gw_3_25 : Cond.methodLink RL 87 yL_lane ∈ gG := gG_3 25 rfl rfl
theorem gw_3_26 : Cond.static yL_lane ∈ gG := gG_3 26 rfl rfl
theorem gw_3_27 : Cond.codeWith yL_lane method_3_code 5 (some .int) [(0, 17, 20, 13)] ∈ gG := gG_3 27 rfl rfl
theorem gw_3_28 : Cond.classLink RL 13 "java/lang/IndexOutOfBoundsException" ∈ gG := gG_3 28 rfl rfl
theorem gw_3_29 : Cond.methodLink RL 7 yX8_lane ∈ gG := gG_3 29 rfl rfl
theorem gw_3_30 : Cond.instanceMethod yX8_lane ∈ gG := gG_3 30 rfl rfl
theorem gw_3_31 : Cond.selects RX8 yX8_lane yX8_lane ∈ gG := gG_3 31 rfl rfl
theorem gw_3_32 : Cond.code yX8_lane prog_1_method_4_code 3 (some .boolean) ∈ gG := gG_3 32 rfl rfl
theorem gw_3_33 : Cond.methodLink RX8 82 yX8_requireIndex ∈ gG := gG_3 33 rfl rfl
theorem gw_3_34 : Cond.static yX8_requireIndex ∈ gG := gG_3 34 rfl rfl
theorem gw_3_35 : Cond.code yX8_requireIndex prog_1_method_31_code 2 none ∈ gG := gG_3 35 rfl rfl
theorem gw_3_36 : Cond.classLink RX8 229 "java/lang/IndexOutOfBoundsException" ∈ gG := gG_3 36 rfl rfl
theorem gw_3_37 : Cond.instantiable "java/lang/IndexOutOfBoundsException" 6 ∈ gG := gG_3 37 rfl rfl
theorem gw_3_57 : Cond.fieldLink "java/lang/Throwable" 198 "java/lang/Throwable" "backtrace" "Ljava/lang/Object;" ∈ gG := gG_3 57 rfl rfl
theorem gw_3_61 : Cond.methodLink "java/lang/Throwable" 1 objectInit ∈ gG := gG_3 61 rfl rfl
theorem gw_3_62 : Cond.fieldLink "java/lang/Throwable" 13 "java/lang/Throwable" "UNASSIGNED_STACK" "[Ljava/lang/StackTraceElement;" ∈ gG := gG_3 62 rfl rfl
theorem gw_3_64 : Cond.fieldLink "java/lang/Throwable" 20 "java/lang/Throwable" "SUPPRESSED_SENTINEL" "Ljava/util/List;" ∈ gG := gG_3 64 rfl rfl
theorem gw_3_75 : Cond.instantiable "java/lang/Throwable" 6 ∈ gG := gG_3 75 rfl rfl
theorem gw_3_88 : Cond.fieldLink "java/lang/Throwable" 7 "java/lang/Throwable" "cause" "Ljava/lang/Throwable;" ∈ gG := gG_3 88 rfl rfl
theorem gw_3_89 : Cond.fieldLink "java/lang/Throwable" 17 "java/lang/Throwable" "stackTrace" "[Ljava/lang/StackTraceElement;" ∈ gG := gG_3 89 rfl rfl
theorem gw_3_90 : Cond.fieldLink "java/lang/Throwable" 24 "java/lang/Throwable" "suppressedExceptions" "Ljava/util/List;" ∈ gG := gG_3 90 rfl rfl
theorem gw_3_99 : Cond.methodLink RX8 86 yX3_setLane ∈ gG := gG_3 99 rfl rfl
theorem gw_3_100 : Cond.instanceMethod yX3_setLane ∈ gG := gG_3 100 rfl rfl
theorem gw_3_101 : Cond.selects RX3 yX3_setLane yX3_setLane ∈ gG := gG_3 101 rfl rfl
theorem gw_3_102 : Cond.code yX3_setLane prog_5_method_2_code 4 (some .boolean) ∈ gG := gG_3 102 rfl rfl
theorem gw_3_103 : Cond.methodLink RL 96 yL_gate ∈ gG := gG_3 103 rfl rfl
theorem gw_3_104 : Cond.static yL_gate ∈ gG := gG_3 104 rfl rfl
theorem gw_3_105 : Cond.codeWith yL_gate method_4_code 3 (some .int) [(0, 5, 8, 13)] ∈ gG := gG_3 105 rfl rfl
theorem gw_3_106 : Cond.methodLink RL 15 yX8_gate ∈ gG := gG_3 106 rfl rfl
theorem gw_3_107 : Cond.instanceMethod yX8_gate ∈ gG := gG_3 107 rfl rfl
theorem gw_3_108 : Cond.selects RX8 yX8_gate yX8_gate ∈ gG := gG_3 108 rfl rfl
theorem gw_3_109 : Cond.code yX8_gate prog_1_method_5_code 2 none ∈ gG := gG_3 109 rfl rfl
theorem gw_3_110 : Cond.methodLink RL 100 yL_tent ∈ gG := gG_3 110 rfl rfl
theorem gw_3_111 : Cond.static yL_tent ∈ gG := gG_3 111 rfl rfl
theorem gw_3_112 : Cond.codeWith yL_tent method_5_code 5 (some .int) [(0, 10, 13, 23), (0, 10, 17, 25)] ∈ gG := gG_3 112 rfl rfl
theorem gw_3_113 : Cond.classLink RL 23 "java/lang/IllegalArgumentException" ∈ gG := gG_3 113 rfl rfl
theorem gw_3_114 : Cond.classLink RL 25 "java/lang/UnsupportedOperationException" ∈ gG := gG_3 114 rfl rfl
theorem gw_3_115 : Cond.methodLink RL 19 yX8_tent ∈ gG := gG_3 115 rfl rfl
theorem gw_3_116 : Cond.instanceMethod yX8_tent ∈ gG := gG_3 116 rfl rfl
theorem gw_3_117 : Cond.selects RX8 yX8_tent yX8_tent ∈ gG := gG_3 117 rfl rfl
theorem gw_3_118 : Cond.code yX8_tent prog_1_method_6_code 3 (some .int) ∈ gG := gG_3 118 rfl rfl
theorem gw_3_119 : Cond.methodLink RX8 93 yX8_requireNumber ∈ gG := gG_3 119 rfl rfl
theorem gw_3_120 : Cond.static yX8_requireNumber ∈ gG := gG_3 120 rfl rfl
theorem gw_3_121 : Cond.code yX8_requireNumber prog_1_method_32_code 3 none ∈ gG := gG_3 121 rfl rfl
theorem gw_3_122 : Cond.classLink RX8 126 "java/lang/IllegalArgumentException" ∈ gG := gG_3 122 rfl rfl
theorem gw_3_123 : Cond.instantiable "java/lang/IllegalArgumentException" 6 ∈ gG := gG_3 123 rfl rfl
theorem gw_3_137 : Cond.classLink RX8 100 "java/lang/UnsupportedOperationException" ∈ gG := gG_3 137 rfl rfl
theorem gw_3_138 : Cond.instantiable "java/lang/UnsupportedOperationException" 6 ∈ gG := gG_3 138 rfl rfl
theorem gw_3_152 : Cond.methodLink RX8 103 yX3_putTent ∈ gG := gG_3 152 rfl rfl
theorem gw_3_153 : Cond.instanceMethod yX3_putTent ∈ gG := gG_3 153 rfl rfl
theorem gw_3_154 : Cond.selects RX3 yX3_putTent yX3_putTent ∈ gG := gG_3 154 rfl rfl
theorem gw_3_155 : Cond.code yX3_putTent prog_5_method_3_code 9 (some .int) ∈ gG := gG_3 155 rfl rfl
theorem gw_3_156 : Cond.methodLink RX3 21 yX3_nearestCorner ∈ gG := gG_3 156 rfl rfl
theorem gw_3_158 : Cond.instanceMethod yX3_nearestCorner ∈ gG := gG_3 158 rfl rfl
theorem gw_3_159 : Cond.code yX3_nearestCorner prog_5_method_7_code 8 (some .int) ∈ gG := gG_3 159 rfl rfl
theorem gw_3_160 : Cond.constant RX3 34 (2147483647) ∈ gG := gG_3 160 rfl rfl
theorem gw_3_161 : Cond.methodLink RX3 35 yX3_stepsFromGate ∈ gG := gG_3 161 rfl rfl
theorem gw_3_163 : Cond.instanceMethod yX3_stepsFromGate ∈ gG := gG_3 163 rfl rfl
theorem gw_3_164 : Cond.code yX3_stepsFromGate prog_5_method_8_code 3 (some .int) ∈ gG := gG_3 164 rfl rfl
theorem gw_3_165 : Cond.methodLink RX3 45 Lib.Math.abs.name ∈ gG := gG_3 165 rfl rfl
theorem gw_3_166 : Cond.static Lib.Math.abs.name ∈ gG := gG_3 166 rfl rfl
theorem gw_3_167 : Cond.code Lib.Math.abs.name prog_15_method_59_code 1 (some .int) ∈ gG := gG_3 167 rfl rfl
theorem gw_3_168 : Cond.methodLink RX3 38 yX3_isFree ∈ gG := gG_3 168 rfl rfl
theorem gw_3_170 : Cond.instanceMethod yX3_isFree ∈ gG := gG_3 170 rfl rfl
theorem gw_3_171 : Cond.code yX3_isFree prog_5_method_9_code 7 (some .boolean) ∈ gG := gG_3 171 rfl rfl
theorem gw_3_172 : Cond.methodLink RL 104 yL_strike ∈ gG := gG_3 172 rfl rfl
theorem gw_3_173 : Cond.static yL_strike ∈ gG := gG_3 173 rfl rfl
theorem gw_3_174 : Cond.codeWith yL_strike method_6_code 4 (some .int) [(0, 16, 19, 13)] ∈ gG := gG_3 174 rfl rfl
theorem gw_3_175 : Cond.methodLink RL 27 yX8_strike ∈ gG := gG_3 175 rfl rfl
theorem gw_3_176 : Cond.instanceMethod yX8_strike ∈ gG := gG_3 176 rfl rfl
theorem gw_3_177 : Cond.selects RX8 yX8_strike yX8_strike ∈ gG := gG_3 177 rfl rfl
theorem gw_3_178 : Cond.code yX8_strike prog_1_method_7_code 2 (some .boolean) ∈ gG := gG_3 178 rfl rfl
theorem gw_3_179 : Cond.methodLink RX8 107 yX3_takeDown ∈ gG := gG_3 179 rfl rfl
theorem gw_3_180 : Cond.instanceMethod yX3_takeDown ∈ gG := gG_3 180 rfl rfl
theorem gw_3_181 : Cond.selects RX3 yX3_takeDown yX3_takeDown ∈ gG := gG_3 181 rfl rfl
theorem gw_3_182 : Cond.code yX3_takeDown prog_5_method_4_code 4 (some .boolean) ∈ gG := gG_3 182 rfl rfl
theorem gw_3_183 : Cond.methodLink RL 108 yL_at ∈ gG := gG_3 183 rfl rfl
theorem gw_3_184 : Cond.static yL_at ∈ gG := gG_3 184 rfl rfl
theorem gw_3_185 : Cond.codeWith yL_at method_7_code 4 (some .int) [(0, 9, 12, 13)] ∈ gG := gG_3 185 rfl rfl
theorem gw_3_186 : Cond.methodLink RL 31 yX8_at ∈ gG := gG_3 186 rfl rfl
theorem gw_3_187 : Cond.instanceMethod yX8_at ∈ gG := gG_3 187 rfl rfl
theorem gw_3_188 : Cond.selects RX8 yX8_at yX8_at ∈ gG := gG_3 188 rfl rfl
theorem gw_3_189 : Cond.code yX8_at prog_1_method_8_code 2 (some .int) ∈ gG := gG_3 189 rfl rfl
theorem gw_3_190 : Cond.methodLink RL 111 yL_place ∈ gG := gG_3 190 rfl rfl
theorem gw_3_191 : Cond.static yL_place ∈ gG := gG_3 191 rfl rfl
theorem gw_3_192 : Cond.codeWith yL_place method_8_code 5 (some .int) [(0, 10, 13, 23), (0, 10, 17, 25)] ∈ gG := gG_3 192 rfl rfl
theorem gw_3_193 : Cond.methodLink RL 35 yX8_place ∈ gG := gG_3 193 rfl rfl
theorem gw_3_194 : Cond.instanceMethod yX8_place ∈ gG := gG_3 194 rfl rfl
theorem gw_3_195 : Cond.selects RX8 yX8_place yX8_place ∈ gG := gG_3 195 rfl rfl
theorem gw_3_196 : Cond.code yX8_place prog_1_method_9_code 3 (some .int) ∈ gG := gG_3 196 rfl rfl
theorem gw_3_197 : Cond.methodLink RX8 117 yX2_addPlace ∈ gG := gG_3 197 rfl rfl
theorem gw_3_198 : Cond.instanceMethod yX2_addPlace ∈ gG := gG_3 198 rfl rfl
theorem gw_3_199 : Cond.selects RX2 yX2_addPlace yX2_addPlace ∈ gG := gG_3 199 rfl rfl
theorem gw_3_200 : Cond.code yX2_addPlace prog_4_method_2_code 3 (some .int) ∈ gG := gG_3 200 rfl rfl
theorem gw_3_201 : Cond.methodLink RX2 54 yX2_noteChange ∈ gG := gG_3 201 rfl rfl
theorem gw_3_203 : Cond.instanceMethod yX2_noteChange ∈ gG := gG_3 203 rfl rfl
theorem gw_3_204 : Cond.code yX2_noteChange prog_4_method_11_code 1 none ∈ gG := gG_3 204 rfl rfl
theorem gw_3_205 : Cond.methodLink RL 114 yL_crowd ∈ gG := gG_3 205 rfl rfl
theorem gw_3_206 : Cond.static yL_crowd ∈ gG := gG_3 206 rfl rfl
theorem gw_3_207 : Cond.codeWith yL_crowd method_9_code 4 (some .int) [(0, 6, 9, 13), (0, 6, 12, 23)] ∈ gG := gG_3 207 rfl rfl
theorem gw_3_208 : Cond.methodLink RL 38 yX8_crowd ∈ gG := gG_3 208 rfl rfl
theorem gw_3_209 : Cond.instanceMethod yX8_crowd ∈ gG := gG_3 209 rfl rfl
theorem gw_3_210 : Cond.selects RX8 yX8_crowd yX8_crowd ∈ gG := gG_3 210 rfl rfl
theorem gw_3_211 : Cond.code yX8_crowd prog_1_method_10_code 3 none ∈ gG := gG_3 211 rfl rfl
theorem gw_3_212 : Cond.methodLink RX8 120 yX2_setCrowd ∈ gG := gG_3 212 rfl rfl
theorem gw_3_213 : Cond.instanceMethod yX2_setCrowd ∈ gG := gG_3 213 rfl rfl
theorem gw_3_214 : Cond.selects RX2 yX2_setCrowd yX2_setCrowd ∈ gG := gG_3 214 rfl rfl
theorem gw_3_215 : Cond.code yX2_setCrowd prog_4_method_3_code 3 none ∈ gG := gG_3 215 rfl rfl
theorem gw_3_216 : Cond.methodLink RL 118 yL_shut ∈ gG := gG_3 216 rfl rfl
theorem gw_3_217 : Cond.static yL_shut ∈ gG := gG_3 217 rfl rfl
theorem gw_3_218 : Cond.codeWith yL_shut method_10_code 5 (some .int) [(0, 17, 20, 13)] ∈ gG := gG_3 218 rfl rfl
theorem gw_3_219 : Cond.methodLink RL 42 yX8_shut ∈ gG := gG_3 219 rfl rfl
theorem gw_3_220 : Cond.instanceMethod yX8_shut ∈ gG := gG_3 220 rfl rfl
theorem gw_3_221 : Cond.selects RX8 yX8_shut yX8_shut ∈ gG := gG_3 221 rfl rfl
theorem gw_3_222 : Cond.code yX8_shut prog_1_method_11_code 3 (some .boolean) ∈ gG := gG_3 222 rfl rfl
theorem gw_3_223 : Cond.methodLink RX8 123 yX2_setClosed ∈ gG := gG_3 223 rfl rfl
theorem gw_3_224 : Cond.instanceMethod yX2_setClosed ∈ gG := gG_3 224 rfl rfl
theorem gw_3_225 : Cond.selects RX2 yX2_setClosed yX2_setClosed ∈ gG := gG_3 225 rfl rfl
theorem gw_3_226 : Cond.code yX2_setClosed prog_4_method_4_code 3 (some .boolean) ∈ gG := gG_3 226 rfl rfl
theorem gw_3_227 : Cond.methodLink RL 121 yL_way ∈ gG := gG_3 227 rfl rfl
theorem gw_3_228 : Cond.static yL_way ∈ gG := gG_3 228 rfl rfl
theorem gw_3_229 : Cond.codeWith yL_way method_11_code 7 (some .int) [(0, 14, 17, 13), (0, 14, 21, 23), (0, 14, 25, 25)] ∈ gG := gG_3 229 rfl rfl
theorem gw_3_230 : Cond.methodLink RL 45 yX8_way ∈ gG := gG_3 230 rfl rfl
theorem gw_3_231 : Cond.instanceMethod yX8_way ∈ gG := gG_3 231 rfl rfl
theorem gw_3_232 : Cond.selects RX8 yX8_way yX8_way ∈ gG := gG_3 232 rfl rfl
theorem gw_3_233 : Cond.code yX8_way prog_1_method_12_code 5 (some .int) ∈ gG := gG_3 233 rfl rfl
theorem gw_3_234 : Cond.methodLink RX8 132 yX2_addWay ∈ gG := gG_3 234 rfl rfl
theorem gw_3_235 : Cond.instanceMethod yX2_addWay ∈ gG := gG_3 235 rfl rfl
theorem gw_3_236 : Cond.selects RX2 yX2_addWay yX2_addWay ∈ gG := gG_3 236 rfl rfl
theorem gw_3_237 : Cond.code yX2_addWay prog_4_method_5_code 5 (some .int) ∈ gG := gG_3 237 rfl rfl
theorem gw_3_238 : Cond.methodLink RX2 60 yX2_addArc ∈ gG := gG_3 238 rfl rfl
theorem gw_4_0 : Cond.instanceMethod yX2_addArc ∈ gG := gG_4 0 rfl rfl
theorem gw_4_1 : Cond.code yX2_addArc prog_4_method_10_code 7 none ∈ gG := gG_4 1 rfl rfl
theorem gw_4_2 : Cond.methodLink RL 133 yL_act ∈ gG := gG_4 2 rfl rfl
theorem gw_4_3 : Cond.static yL_act ∈ gG := gG_4 3 rfl rfl
theorem gw_4_4 : Cond.codeWith yL_act method_12_code 7 (some .int) [(0, 14, 17, 13), (0, 14, 21, 23)] ∈ gG := gG_4 4 rfl rfl
theorem gw_4_5 : Cond.methodLink RL 49 yX8_act ∈ gG := gG_4 5 rfl rfl
theorem gw_4_6 : Cond.instanceMethod yX8_act ∈ gG := gG_4 6 rfl rfl
theorem gw_4_7 : Cond.selects RX8 yX8_act yX8_act ∈ gG := gG_4 7 rfl rfl
theorem gw_4_8 : Cond.code yX8_act prog_1_method_15_code 6 (some .int) ∈ gG := gG_4 8 rfl rfl
theorem gw_4_9 : Cond.methodLink RX8 146 yX4_addAct ∈ gG := gG_4 9 rfl rfl
theorem gw_4_10 : Cond.instanceMethod yX4_addAct ∈ gG := gG_4 10 rfl rfl
theorem gw_4_11 : Cond.selects RX4 yX4_addAct yX4_addAct ∈ gG := gG_4 11 rfl rfl
theorem gw_4_12 : Cond.code yX4_addAct prog_6_method_2_code 5 (some .int) ∈ gG := gG_4 12 rfl rfl
theorem gw_4_13 : Cond.methodLink RL 141 yL_shift ∈ gG := gG_4 13 rfl rfl
theorem gw_4_14 : Cond.static yL_shift ∈ gG := gG_4 14 rfl rfl
theorem gw_4_15 : Cond.codeWith yL_shift method_13_code 4 (some .int) [(0, 9, 12, 13)] ∈ gG := gG_4 15 rfl rfl
theorem gw_4_16 : Cond.methodLink RL 53 yX8_shift ∈ gG := gG_4 16 rfl rfl
theorem gw_4_17 : Cond.instanceMethod yX8_shift ∈ gG := gG_4 17 rfl rfl
theorem gw_4_18 : Cond.selects RX8 yX8_shift yX8_shift ∈ gG := gG_4 18 rfl rfl
theorem gw_4_19 : Cond.code yX8_shift prog_1_method_17_code 2 (some .int) ∈ gG := gG_4 19 rfl rfl
theorem gw_4_20 : Cond.methodLink RL 148 yL_minutes ∈ gG := gG_4 20 rfl rfl
theorem gw_4_21 : Cond.static yL_minutes ∈ gG := gG_4 21 rfl rfl
theorem gw_4_22 : Cond.codeWith yL_minutes method_14_code 4 (some .int) [(0, 9, 12, 23)] ∈ gG := gG_4 22 rfl rfl
theorem gw_4_23 : Cond.methodLink RL 56 yX8_minutes ∈ gG := gG_4 23 rfl rfl
theorem gw_4_24 : Cond.instanceMethod yX8_minutes ∈ gG := gG_4 24 rfl rfl
theorem gw_4_25 : Cond.selects RX8 yX8_minutes yX8_minutes ∈ gG := gG_4 25 rfl rfl
theorem gw_4_26 : Cond.code yX8_minutes prog_1_method_19_code 2 (some .int) ∈ gG := gG_4 26 rfl rfl
theorem gw_4_27 : Cond.methodLink RX8 167 Lib.Math.min.name ∈ gG := gG_4 27 rfl rfl
theorem gw_4_28 : Cond.methodLink RL 151 yL_pass ∈ gG := gG_4 28 rfl rfl
theorem gw_4_29 : Cond.static yL_pass ∈ gG := gG_4 29 rfl rfl
theorem gw_4_30 : Cond.codeWith yL_pass method_15_code 6 (some .int) [(0, 12, 15, 13), (0, 12, 19, 23)] ∈ gG := gG_4 30 rfl rfl
theorem gw_4_31 : Cond.methodLink RL 59 yX8_pass ∈ gG := gG_4 31 rfl rfl
theorem gw_4_32 : Cond.instanceMethod yX8_pass ∈ gG := gG_4 32 rfl rfl
theorem gw_4_33 : Cond.selects RX8 yX8_pass yX8_pass ∈ gG := gG_4 33 rfl rfl
theorem gw_4_34 : Cond.code yX8_pass prog_1_method_20_code 4 (some .int) ∈ gG := gG_4 34 rfl rfl
theorem gw_4_35 : Cond.methodLink RX8 172 yX1_write ∈ gG := gG_4 35 rfl rfl
theorem gw_4_36 : Cond.instanceMethod yX1_write ∈ gG := gG_4 36 rfl rfl
theorem gw_4_37 : Cond.selects RX1 yX1_write yX1_write ∈ gG := gG_4 37 rfl rfl
theorem gw_4_38 : Cond.code yX1_write prog_3_method_2_code 6 (some .int) ∈ gG := gG_4 38 rfl rfl
theorem gw_4_39 : Cond.methodLink RX1 32 yX1_putInOrder ∈ gG := gG_4 39 rfl rfl
theorem gw_4_41 : Cond.instanceMethod yX1_putInOrder ∈ gG := gG_4 41 rfl rfl
theorem gw_4_42 : Cond.code yX1_putInOrder prog_3_method_6_code 3 none ∈ gG := gG_4 42 rfl rfl
theorem gw_4_43 : Cond.methodLink RX1 36 yX1_isBehind ∈ gG := gG_4 43 rfl rfl
theorem gw_4_45 : Cond.instanceMethod yX1_isBehind ∈ gG := gG_4 45 rfl rfl
theorem gw_4_46 : Cond.code yX1_isBehind prog_3_method_7_code 3 (some .boolean) ∈ gG := gG_4 46 rfl rfl
theorem gw_4_47 : Cond.methodLink RL 155 yL_inside ∈ gG := gG_4 47 rfl rfl
theorem gw_4_48 : Cond.static yL_inside ∈ gG := gG_4 48 rfl rfl
theorem gw_4_49 : Cond.codeWith yL_inside method_16_code 6 (some .int) [(0, 19, 22, 13)] ∈ gG := gG_4 49 rfl rfl
theorem gw_4_50 : Cond.methodLink RL 63 yX8_inside ∈ gG := gG_4 50 rfl rfl
theorem gw_4_51 : Cond.instanceMethod yX8_inside ∈ gG := gG_4 51 rfl rfl
theorem gw_4_52 : Cond.selects RX8 yX8_inside yX8_inside ∈ gG := gG_4 52 rfl rfl
theorem gw_4_53 : Cond.code yX8_inside prog_1_method_21_code 4 (some .boolean) ∈ gG := gG_4 53 rfl rfl
theorem gw_4_54 : Cond.methodLink RX8 176 yX1_isInside ∈ gG := gG_4 54 rfl rfl
theorem gw_4_55 : Cond.instanceMethod yX1_isInside ∈ gG := gG_4 55 rfl rfl
theorem gw_4_56 : Cond.selects RX1 yX1_isInside yX1_isInside ∈ gG := gG_4 56 rfl rfl
theorem gw_4_57 : Cond.code yX1_isInside prog_3_method_3_code 7 (some .boolean) ∈ gG := gG_4 57 rfl rfl
theorem gw_4_58 : Cond.methodLink RL 164 yL_noise ∈ gG := gG_4 58 rfl rfl
theorem gw_4_59 : Cond.static yL_noise ∈ gG := gG_4 59 rfl rfl
theorem gw_4_60 : Cond.codeWith yL_noise method_17_code 4 (some .int) [(0, 6, 9, 23)] ∈ gG := gG_4 60 rfl rfl
theorem gw_4_61 : Cond.methodLink RL 67 yX8_noise ∈ gG := gG_4 61 rfl rfl
theorem gw_4_62 : Cond.instanceMethod yX8_noise ∈ gG := gG_4 62 rfl rfl
theorem gw_4_63 : Cond.selects RX8 yX8_noise yX8_noise ∈ gG := gG_4 63 rfl rfl
theorem gw_4_64 : Cond.code yX8_noise prog_1_method_23_code 3 none ∈ gG := gG_4 64 rfl rfl
theorem gw_4_65 : Cond.methodLink RL 167 yL_licence ∈ gG := gG_4 65 rfl rfl
theorem gw_4_66 : Cond.static yL_licence ∈ gG := gG_4 66 rfl rfl
theorem gw_4_67 : Cond.codeWith yL_licence method_18_code 3 (some .int) [(0, 8, 11, 23)] ∈ gG := gG_4 67 rfl rfl
theorem gw_4_68 : Cond.methodLink RL 70 yX8_licence ∈ gG := gG_4 68 rfl rfl
theorem gw_4_69 : Cond.instanceMethod yX8_licence ∈ gG := gG_4 69 rfl rfl
theorem gw_4_70 : Cond.selects RX8 yX8_licence yX8_licence ∈ gG := gG_4 70 rfl rfl
theorem gw_4_71 : Cond.code yX8_licence prog_1_method_24_code 2 (some .int) ∈ gG := gG_4 71 rfl rfl
theorem gw_4_72 : Cond.methodLink RX8 187 yX5_readInto ∈ gG := gG_4 72 rfl rfl
theorem gw_4_73 : Cond.instanceMethod yX5_readInto ∈ gG := gG_4 73 rfl rfl
theorem gw_4_74 : Cond.selects RX5 yX5_readInto yX5_readInto ∈ gG := gG_4 74 rfl rfl
theorem gw_4_75 : Cond.code yX5_readInto prog_7_method_2_code 3 (some .int) ∈ gG := gG_4 75 rfl rfl
theorem gw_4_76 : Cond.methodLink RX5 27 yX5_readTerm ∈ gG := gG_4 76 rfl rfl
theorem gw_4_78 : Cond.instanceMethod yX5_readTerm ∈ gG := gG_4 78 rfl rfl
theorem gw_4_79 : Cond.code yX5_readTerm prog_7_method_3_code 6 none ∈ gG := gG_4 79 rfl rfl
theorem gw_4_80 : Cond.methodLink RX5 31 yX5_skipBlanks ∈ gG := gG_4 80 rfl rfl
theorem gw_4_82 : Cond.instanceMethod yX5_skipBlanks ∈ gG := gG_4 82 rfl rfl
theorem gw_4_83 : Cond.code yX5_skipBlanks prog_7_method_10_code 1 none ∈ gG := gG_4 83 rfl rfl
theorem gw_4_84 : Cond.methodLink RX5 37 yX6_byteAt ∈ gG := gG_4 84 rfl rfl
theorem gw_4_85 : Cond.instanceMethod yX6_byteAt ∈ gG := gG_4 85 rfl rfl
theorem gw_4_86 : Cond.selects RX6 yX6_byteAt yX6_byteAt ∈ gG := gG_4 86 rfl rfl
theorem gw_4_87 : Cond.code yX6_byteAt prog_8_method_4_code 2 (some .int) ∈ gG := gG_4 87 rfl rfl
theorem gw_4_88 : Cond.methodLink RX5 41 yX5_kindHere ∈ gG := gG_4 88 rfl rfl
theorem gw_4_90 : Cond.instanceMethod yX5_kindHere ∈ gG := gG_4 90 rfl rfl
theorem gw_4_91 : Cond.code yX5_kindHere prog_7_method_4_code 1 (some .int) ∈ gG := gG_4 91 rfl rfl
theorem gw_4_93 : Cond.methodLink RX5 69 yX5_isWordHere ∈ gG := gG_4 93 rfl rfl
theorem gw_4_95 : Cond.instanceMethod yX5_isWordHere ∈ gG := gG_4 95 rfl rfl
theorem gw_4_96 : Cond.code yX5_isWordHere prog_7_method_8_code 4 (some .boolean) ∈ gG := gG_4 96 rfl rfl
theorem gw_4_97 : Cond.methodLink RX5 90 yJ0_length_8abf5 ∈ gG := gG_4 97 rfl rfl
theorem gw_4_98 : Cond.instanceMethod yJ0_length_8abf5 ∈ gG := gG_4 98 rfl rfl
theorem gw_4_99 : Cond.selects RJ0 yJ0_length_8abf5 yJ0_length_8abf5 ∈ gG := gG_4 99 rfl rfl
theorem gw_4_100 : Cond.code yJ0_length_8abf5 prog_17_method_54_code 1 (some .int) ∈ gG := gG_4 100 rfl rfl
theorem gw_4_101 : Cond.methodLink RJ0 335 yJ0_coder_7d493 ∈ gG := gG_4 101 rfl rfl
theorem gw_4_102 : Cond.instanceMethod yJ0_coder_7d493 ∈ gG := gG_4 102 rfl rfl
theorem gw_4_103 : Cond.selects RJ0 yJ0_coder_7d493 yJ0_coder_7d493 ∈ gG := gG_4 103 rfl rfl
theorem gw_4_104 : Cond.code yJ0_coder_7d493 prog_17_method_152_code 1 (some .byte) ∈ gG := gG_4 104 rfl rfl
theorem gw_4_105 : Cond.fieldLink RJ0 38 "java/lang/String" "COMPACT_STRINGS" "Z" ∈ gG := gG_4 105 rfl rfl
theorem gw_4_107 : Cond.methodLink RX5 95 yJ0_charAt_5068e ∈ gG := gG_4 107 rfl rfl
theorem gw_4_108 : Cond.instanceMethod yJ0_charAt_5068e ∈ gG := gG_4 108 rfl rfl
theorem gw_4_109 : Cond.selects RJ0 yJ0_charAt_5068e yJ0_charAt_5068e ∈ gG := gG_4 109 rfl rfl
theorem gw_4_110 : Cond.code yJ0_charAt_5068e prog_17_method_56_code 2 (some .char) ∈ gG := gG_4 110 rfl rfl
theorem gw_4_111 : Cond.methodLink RJ0 492 yJ0_isLatin1_aae02 ∈ gG := gG_4 111 rfl rfl
theorem gw_4_112 : Cond.instanceMethod yJ0_isLatin1_aae02 ∈ gG := gG_4 112 rfl rfl
theorem gw_4_113 : Cond.selects RJ0 yJ0_isLatin1_aae02 yJ0_isLatin1_aae02 ∈ gG := gG_4 113 rfl rfl
theorem gw_4_114 : Cond.code yJ0_isLatin1_aae02 prog_17_method_154_code 1 (some .boolean) ∈ gG := gG_4 114 rfl rfl
theorem gw_4_115 : Cond.methodLink RJ0 495 yJ1_charAt_3b067 ∈ gG := gG_4 115 rfl rfl
theorem gw_4_116 : Cond.static yJ1_charAt_3b067 ∈ gG := gG_4 116 rfl rfl
theorem gw_4_117 : Cond.code yJ1_charAt_3b067 prog_18_method_2_code 2 (some .char) ∈ gG := gG_4 117 rfl rfl
theorem gw_4_118 : Cond.methodLink RJ1 9 yJ0_checkIndex_df160 ∈ gG := gG_4 118 rfl rfl
theorem gw_4_119 : Cond.static yJ0_checkIndex_df160 ∈ gG := gG_4 119 rfl rfl
theorem gw_4_120 : Cond.code yJ0_checkIndex_df160 prog_17_method_155_code 2 none ∈ gG := gG_4 120 rfl rfl
theorem gw_4_121 : Cond.fieldLink RJ0 1053 "jdk/internal/util/Preconditions" "SIOOBE_FORMATTER" "Ljava/util/function/BiFunction;" ∈ gG := gG_4 121 rfl rfl
theorem gw_4_123 : Cond.methodLink RJ0 1059 yJ3_checkIndex_8e157 ∈ gG := gG_4 123 rfl rfl
theorem gw_4_124 : Cond.static yJ3_checkIndex_8e157 ∈ gG := gG_4 124 rfl rfl
theorem gw_4_125 : Cond.code yJ3_checkIndex_8e157 prog_24_method_11_code 3 (some .int) ∈ gG := gG_4 125 rfl rfl
theorem gw_4_126 : Cond.methodLink RJ0 498 yJ2_charAt_3b067 ∈ gG := gG_4 126 rfl rfl
theorem gw_4_127 : Cond.static yJ2_charAt_3b067 ∈ gG := gG_4 127 rfl rfl
theorem gw_4_128 : Cond.code yJ2_charAt_3b067 prog_19_method_83_code 2 (some .char) ∈ gG := gG_4 128 rfl rfl
theorem gw_4_129 : Cond.methodLink RJ2 67 yJ2_checkIndex_2214a ∈ gG := gG_4 129 rfl rfl
theorem gw_4_130 : Cond.static yJ2_checkIndex_2214a ∈ gG := gG_4 130 rfl rfl
theorem gw_4_131 : Cond.code yJ2_checkIndex_2214a prog_19_method_91_code 2 none ∈ gG := gG_4 131 rfl rfl
theorem gw_4_132 : Cond.methodLink RJ2 48 yJ2_length_9d52b ∈ gG := gG_4 132 rfl rfl
theorem gw_4_133 : Cond.static yJ2_length_9d52b ∈ gG := gG_4 133 rfl rfl
theorem gw_4_134 : Cond.code yJ2_length_9d52b prog_19_method_6_code 1 (some .int) ∈ gG := gG_4 134 rfl rfl
theorem gw_4_135 : Cond.methodLink RJ2 414 yJ0_checkIndex_df160 ∈ gG := gG_4 135 rfl rfl
theorem gw_4_136 : Cond.methodLink RJ2 71 yJ2_getChar_3b067 ∈ gG := gG_4 136 rfl rfl
theorem gw_4_137 : Cond.static yJ2_getChar_3b067 ∈ gG := gG_4 137 rfl rfl
theorem gw_4_138 : Cond.code yJ2_getChar_3b067 prog_19_method_5_code 2 (some .char) ∈ gG := gG_4 138 rfl rfl
theorem gw_4_139 : Cond.fieldLink RJ2 44 "java/lang/StringUTF16" "$assertionsDisabled" "Z" ∈ gG := gG_4 139 rfl rfl
theorem gw_4_141 : Cond.fieldLink RJ2 59 "java/lang/StringUTF16" "HI_BYTE_SHIFT" "I" ∈ gG := gG_4 141 rfl rfl
theorem gw_4_143 : Cond.fieldLink RJ2 63 "java/lang/StringUTF16" "LO_BYTE_SHIFT" "I" ∈ gG := gG_4 143 rfl rfl
theorem gw_4_145 : Cond.methodLink RX5 99 yX5_isLetter ∈ gG := gG_4 145 rfl rfl
theorem gw_4_146 : Cond.static yX5_isLetter ∈ gG := gG_4 146 rfl rfl
theorem gw_4_147 : Cond.code yX5_isLetter prog_7_method_11_code 1 (some .boolean) ∈ gG := gG_4 147 rfl rfl
theorem gw_4_152 : Cond.methodLink RX5 45 yX5_skipWord ∈ gG := gG_4 152 rfl rfl
theorem gw_4_154 : Cond.instanceMethod yX5_skipWord ∈ gG := gG_4 154 rfl rfl
theorem gw_4_155 : Cond.code yX5_skipWord prog_7_method_9_code 1 none ∈ gG := gG_4 155 rfl rfl
theorem gw_4_156 : Cond.methodLink RX5 48 yX5_highest ∈ gG := gG_4 156 rfl rfl
theorem gw_4_157 : Cond.static yX5_highest ∈ gG := gG_4 157 rfl rfl
theorem gw_4_158 : Cond.code yX5_highest prog_7_method_5_code 1 (some .int) ∈ gG := gG_4 158 rfl rfl
theorem gw_4_159 : Cond.constant RX5 83 (160000) ∈ gG := gG_4 159 rfl rfl
theorem gw_4_160 : Cond.methodLink RX5 51 yX5_readNumber ∈ gG := gG_4 160 rfl rfl
theorem gw_4_162 : Cond.instanceMethod yX5_readNumber ∈ gG := gG_4 162 rfl rfl
theorem gw_4_163 : Cond.code yX5_readNumber prog_7_method_7_code 6 (some .int) ∈ gG := gG_4 163 rfl rfl
theorem gw_4_164 : Cond.methodLink RX5 86 yX5_isDigit ∈ gG := gG_4 164 rfl rfl
theorem gw_4_165 : Cond.static yX5_isDigit ∈ gG := gG_4 165 rfl rfl
theorem gw_4_166 : Cond.code yX5_isDigit prog_7_method_12_code 1 (some .boolean) ∈ gG := gG_4 166 rfl rfl
theorem gw_4_168 : Cond.methodLink RX5 57 yX5_readWord ∈ gG := gG_4 168 rfl rfl
theorem gw_4_170 : Cond.instanceMethod yX5_readWord ∈ gG := gG_4 170 rfl rfl
theorem gw_4_171 : Cond.code yX5_readWord prog_7_method_6_code 2 none ∈ gG := gG_4 171 rfl rfl
theorem gw_4_173 : Cond.methodLink RX5 63 yX7_add ∈ gG := gG_4 173 rfl rfl
theorem gw_4_174 : Cond.instanceMethod yX7_add ∈ gG := gG_4 174 rfl rfl
theorem gw_4_175 : Cond.selects RX7 yX7_add yX7_add ∈ gG := gG_4 175 rfl rfl
theorem gw_4_176 : Cond.code yX7_add prog_9_method_2_code 5 none ∈ gG := gG_4 176 rfl rfl
theorem gw_4_177 : Cond.arrayClass .byte ∈ gG := gG_4 177 rfl rfl
theorem gw_4_178 : Cond.methodLink RL 93 yX9_thrown ∈ gG := gG_4 178 rfl rfl
theorem gw_4_179 : Cond.instanceMethod yX9_thrown ∈ gG := gG_4 179 rfl rfl
theorem gw_4_180 : Cond.selects RX9 yX9_thrown yX9_thrown ∈ gG := gG_4 180 rfl rfl
theorem gw_4_181 : Cond.code yX9_thrown prog_11_method_1_code 1 (some .int) ∈ gG := gG_4 181 rfl rfl
theorem gw_4_182 : Cond.classLink RL 75 RX9 ∈ gG := gG_4 182 rfl rfl
theorem gw_4_183 : Cond.instantiable RX9 47 ∈ gG := gG_4 183 rfl rfl
theorem gw_4_184 : Cond.methodLink RL 77 yX9_init ∈ gG := gG_4 184 rfl rfl
theorem gw_4_185 : Cond.instanceMethod yX9_init ∈ gG := gG_4 185 rfl rfl
theorem gw_4_186 : Cond.code yX9_init prog_11_method_4_code 2 none ∈ gG := gG_4 186 rfl rfl
theorem gw_4_187 : Cond.methodLink RX9 7 objectInit ∈ gG := gG_4 187 rfl rfl
theorem gw_4_188 : Cond.fieldLink RX9 3 "FestivalFieldsModel" "thrown" "I" ∈ gG := gG_4 188 rfl rfl
theorem gw_4_189 : Cond.fieldLink RX9 13 "FestivalFieldsModel" "on" "[I" ∈ gG := gG_4 189 rfl rfl
theorem gw_4_190 : Cond.fieldLink RX9 17 "FestivalFieldsModel" "stands" "[Z" ∈ gG := gG_4 190 rfl rfl
theorem gw_4_191 : Cond.fieldLink RX9 130 "FestivalFieldsModel" "tents" "I" ∈ gG := gG_4 191 rfl rfl
theorem gw_4_192 : Cond.fieldLink RX9 127 "FestivalFieldsModel" "gate" "I" ∈ gG := gG_4 192 rfl rfl
theorem gw_4_193 : Cond.fieldLink RX9 21 "FestivalFieldsModel" "crowd" "[I" ∈ gG := gG_4 193 rfl rfl
theorem gw_4_194 : Cond.fieldLink RX9 24 "FestivalFieldsModel" "rate" "[I" ∈ gG := gG_4 194 rfl rfl
theorem gw_4_195 : Cond.fieldLink RX9 27 "FestivalFieldsModel" "isShut" "[Z" ∈ gG := gG_4 195 rfl rfl
theorem gw_4_196 : Cond.fieldLink RX9 142 "FestivalFieldsModel" "places" "I" ∈ gG := gG_4 196 rfl rfl
theorem gw_4_197 : Cond.fieldLink RX9 30 "FestivalFieldsModel" "from" "[I" ∈ gG := gG_4 197 rfl rfl
theorem gw_4_198 : Cond.fieldLink RX9 33 "FestivalFieldsModel" "to" "[I" ∈ gG := gG_4 198 rfl rfl
theorem gw_4_199 : Cond.fieldLink RX9 36 "FestivalFieldsModel" "length" "[I" ∈ gG := gG_4 199 rfl rfl
theorem gw_4_200 : Cond.fieldLink RX9 39 "FestivalFieldsModel" "wide" "[I" ∈ gG := gG_4 200 rfl rfl
theorem gw_4_201 : Cond.fieldLink RX9 148 "FestivalFieldsModel" "ways" "I" ∈ gG := gG_4 201 rfl rfl
theorem gw_4_202 : Cond.fieldLink RX9 42 "FestivalFieldsModel" "waits" "[I" ∈ gG := gG_4 202 rfl rfl
theorem gw_4_203 : Cond.fieldLink RX9 45 "FestivalFieldsModel" "goes" "[I" ∈ gG := gG_4 203 rfl rfl
theorem gw_4_204 : Cond.fieldLink RX9 48 "FestivalFieldsModel" "outs" "[I" ∈ gG := gG_4 204 rfl rfl
theorem gw_4_205 : Cond.fieldLink RX9 51 "FestivalFieldsModel" "left" "[I" ∈ gG := gG_4 205 rfl rfl
theorem gw_4_206 : Cond.fieldLink RX9 54 "FestivalFieldsModel" "cameFrom" "[I" ∈ gG := gG_4 206 rfl rfl
theorem gw_4_207 : Cond.fieldLink RX9 57 "FestivalFieldsModel" "cameBy" "[I" ∈ gG := gG_4 207 rfl rfl
theorem gw_4_208 : Cond.fieldLink RX9 60 "FestivalFieldsModel" "isBack" "[Z" ∈ gG := gG_4 208 rfl rfl
theorem gw_4_209 : Cond.fieldLink RX9 63 "FestivalFieldsModel" "isSeen" "[Z" ∈ gG := gG_4 209 rfl rfl
theorem gw_4_210 : Cond.fieldLink RX9 66 "FestivalFieldsModel" "queue" "[I" ∈ gG := gG_4 210 rfl rfl
theorem gw_4_211 : Cond.fieldLink RX9 155 "FestivalFieldsModel" "queued" "I" ∈ gG := gG_4 211 rfl rfl
theorem gw_4_212 : Cond.fieldLink RX9 69 "FestivalFieldsModel" "actWay" "[I" ∈ gG := gG_4 212 rfl rfl
theorem gw_4_213 : Cond.fieldLink RX9 72 "FestivalFieldsModel" "ends" "[I" ∈ gG := gG_4 213 rfl rfl
theorem gw_4_214 : Cond.fieldLink RX9 75 "FestivalFieldsModel" "people" "[I" ∈ gG := gG_4 214 rfl rfl
theorem gw_4_215 : Cond.fieldLink RX9 196 "FestivalFieldsModel" "acts" "I" ∈ gG := gG_4 215 rfl rfl
theorem gw_4_216 : Cond.fieldLink RX9 78 "FestivalFieldsModel" "shift" "[I" ∈ gG := gG_4 216 rfl rfl
theorem gw_4_217 : Cond.fieldLink RX9 81 "FestivalFieldsModel" "best" "[I" ∈ gG := gG_4 217 rfl rfl
theorem gw_4_218 : Cond.fieldLink RX9 208 "FestivalFieldsModel" "now" "I" ∈ gG := gG_4 218 rfl rfl
theorem gw_4_219 : Cond.fieldLink RX9 84 "FestivalFieldsModel" "pBand" "[I" ∈ gG := gG_4 219 rfl rfl
theorem gw_4_220 : Cond.fieldLink RX9 87 "FestivalFieldsModel" "pIn" "[Z" ∈ gG := gG_4 220 rfl rfl
theorem gw_4_221 : Cond.fieldLink RX9 90 "FestivalFieldsModel" "pMinute" "[I" ∈ gG := gG_4 221 rfl rfl
theorem gw_4_222 : Cond.fieldLink RX9 93 "FestivalFieldsModel" "pTold" "[I" ∈ gG := gG_4 222 rfl rfl
theorem gw_4_223 : Cond.fieldLink RX9 214 "FestivalFieldsModel" "passes" "I" ∈ gG := gG_4 223 rfl rfl
theorem gw_4_224 : Cond.fieldLink RX9 96 "FestivalFieldsModel" "term" "[I" ∈ gG := gG_4 224 rfl rfl
theorem gw_4_225 : Cond.fieldLink RX9 99 "FestivalFieldsModel" "draft" "[I" ∈ gG := gG_4 225 rfl rfl
theorem gw_4_226 : Cond.fieldLink RX9 277 "FestivalFieldsModel" "terms" "I" ∈ gG := gG_4 226 rfl rfl
theorem gw_4_227 : Cond.fieldLink RX9 102 "FestivalFieldsModel" "noise" "[I" ∈ gG := gG_4 227 rfl rfl
theorem gw_4_228 : Cond.fieldLink RX9 105 "FestivalFieldsModel" "tape" "[B" ∈ gG := gG_4 228 rfl rfl
theorem gw_4_229 : Cond.fieldLink RX9 224 "FestivalFieldsModel" "taped" "I" ∈ gG := gG_4 229 rfl rfl
theorem gw_4_230 : Cond.fieldLink RX9 227 "FestivalFieldsModel" "point" "I" ∈ gG := gG_4 230 rfl rfl
theorem gw_4_231 : Cond.fieldLink RX9 230 "FestivalFieldsModel" "end" "I" ∈ gG := gG_4 231 rfl rfl
theorem gw_4_232 : Cond.fieldLink RX9 237 "FestivalFieldsModel" "begin" "I" ∈ gG := gG_4 232 rfl rfl
theorem gw_4_233 : Cond.fieldLink RX9 109 "FestivalFieldsModel" "faultAt" "I" ∈ gG := gG_4 233 rfl rfl
theorem gw_4_234 : Cond.fieldLink RX9 112 "FestivalFieldsModel" "five" "[I" ∈ gG := gG_4 234 rfl rfl
theorem gw_5_90 : Cond.methodLink RL 92 yX9_lane ∈ gG := gG_5 90 rfl rfl
theorem gw_5_91 : Cond.instanceMethod yX9_lane ∈ gG := gG_5 91 rfl rfl
theorem gw_5_92 : Cond.selects RX9 yX9_lane yX9_lane ∈ gG := gG_5 92 rfl rfl
theorem gw_5_93 : Cond.code yX9_lane prog_11_method_6_code 3 (some .boolean) ∈ gG := gG_5 93 rfl rfl
theorem gw_5_94 : Cond.methodLink RX9 119 yX9_noSquare ∈ gG := gG_5 94 rfl rfl
theorem gw_5_95 : Cond.static yX9_noSquare ∈ gG := gG_5 95 rfl rfl
theorem gw_5_96 : Cond.code yX9_noSquare prog_11_method_5_code 1 (some .boolean) ∈ gG := gG_5 96 rfl rfl
theorem gw_5_97 : Cond.methodLink RX9 115 yX9_in ∈ gG := gG_5 97 rfl rfl
theorem gw_5_98 : Cond.static yX9_in ∈ gG := gG_5 98 rfl rfl
theorem gw_5_99 : Cond.code yX9_in prog_11_method_3_code 3 (some .boolean) ∈ gG := gG_5 99 rfl rfl
theorem gw_5_100 : Cond.methodLink RX9 123 yX9_throwsIf ∈ gG := gG_5 100 rfl rfl
theorem gw_5_102 : Cond.instanceMethod yX9_throwsIf ∈ gG := gG_5 102 rfl rfl
theorem gw_5_103 : Cond.code yX9_throwsIf prog_11_method_2_code 3 (some .boolean) ∈ gG := gG_5 103 rfl rfl
theorem gw_5_104 : Cond.methodLink RL 99 yX9_gate ∈ gG := gG_5 104 rfl rfl
theorem gw_5_105 : Cond.instanceMethod yX9_gate ∈ gG := gG_5 105 rfl rfl
theorem gw_5_106 : Cond.selects RX9 yX9_gate yX9_gate ∈ gG := gG_5 106 rfl rfl
theorem gw_5_107 : Cond.code yX9_gate prog_11_method_7_code 2 none ∈ gG := gG_5 107 rfl rfl
theorem gw_5_108 : Cond.methodLink RL 103 yX9_tent ∈ gG := gG_5 108 rfl rfl
theorem gw_5_109 : Cond.instanceMethod yX9_tent ∈ gG := gG_5 109 rfl rfl
theorem gw_5_110 : Cond.selects RX9 yX9_tent yX9_tent ∈ gG := gG_5 110 rfl rfl
theorem gw_5_111 : Cond.code yX9_tent prog_11_method_9_code 7 (some .int) ∈ gG := gG_5 111 rfl rfl
theorem gw_5_112 : Cond.methodLink RX9 133 Lib.Math.abs.name ∈ gG := gG_5 112 rfl rfl
theorem gw_5_113 : Cond.methodLink RX9 139 yX9_isFree ∈ gG := gG_5 113 rfl rfl
theorem gw_5_115 : Cond.instanceMethod yX9_isFree ∈ gG := gG_5 115 rfl rfl
theorem gw_5_116 : Cond.code yX9_isFree prog_11_method_8_code 7 (some .boolean) ∈ gG := gG_5 116 rfl rfl
theorem gw_5_117 : Cond.methodLink RL 107 yX9_strike ∈ gG := gG_5 117 rfl rfl
theorem gw_5_118 : Cond.instanceMethod yX9_strike ∈ gG := gG_5 118 rfl rfl
theorem gw_5_119 : Cond.selects RX9 yX9_strike yX9_strike ∈ gG := gG_5 119 rfl rfl
theorem gw_5_120 : Cond.code yX9_strike prog_11_method_10_code 3 (some .boolean) ∈ gG := gG_5 120 rfl rfl
theorem gw_5_121 : Cond.methodLink RL 110 yX9_at ∈ gG := gG_5 121 rfl rfl
theorem gw_5_122 : Cond.instanceMethod yX9_at ∈ gG := gG_5 122 rfl rfl
theorem gw_5_123 : Cond.selects RX9 yX9_at yX9_at ∈ gG := gG_5 123 rfl rfl
theorem gw_5_124 : Cond.code yX9_at prog_11_method_11_code 2 (some .int) ∈ gG := gG_5 124 rfl rfl
theorem gw_5_125 : Cond.methodLink RL 113 yX9_place ∈ gG := gG_5 125 rfl rfl
theorem gw_5_126 : Cond.instanceMethod yX9_place ∈ gG := gG_5 126 rfl rfl
theorem gw_5_127 : Cond.selects RX9 yX9_place yX9_place ∈ gG := gG_5 127 rfl rfl
theorem gw_5_128 : Cond.code yX9_place prog_11_method_14_code 3 (some .int) ∈ gG := gG_5 128 rfl rfl
theorem gw_5_129 : Cond.methodLink RL 117 yX9_crowd ∈ gG := gG_5 129 rfl rfl
theorem gw_5_130 : Cond.instanceMethod yX9_crowd ∈ gG := gG_5 130 rfl rfl
theorem gw_5_131 : Cond.selects RX9 yX9_crowd yX9_crowd ∈ gG := gG_5 131 rfl rfl
theorem gw_5_132 : Cond.code yX9_crowd prog_11_method_15_code 3 none ∈ gG := gG_5 132 rfl rfl
theorem gw_5_133 : Cond.methodLink RX9 145 yX9_noPlace ∈ gG := gG_5 133 rfl rfl
theorem gw_5_135 : Cond.instanceMethod yX9_noPlace ∈ gG := gG_5 135 rfl rfl
theorem gw_5_136 : Cond.code yX9_noPlace prog_11_method_13_code 2 (some .boolean) ∈ gG := gG_5 136 rfl rfl
theorem gw_5_137 : Cond.methodLink RL 120 yX9_shut ∈ gG := gG_5 137 rfl rfl
theorem gw_5_138 : Cond.instanceMethod yX9_shut ∈ gG := gG_5 138 rfl rfl
theorem gw_5_139 : Cond.selects RX9 yX9_shut yX9_shut ∈ gG := gG_5 139 rfl rfl
theorem gw_5_140 : Cond.code yX9_shut prog_11_method_16_code 4 (some .boolean) ∈ gG := gG_5 140 rfl rfl
theorem gw_5_141 : Cond.methodLink RL 124 yX9_way ∈ gG := gG_5 141 rfl rfl
theorem gw_5_142 : Cond.instanceMethod yX9_way ∈ gG := gG_5 142 rfl rfl
theorem gw_5_143 : Cond.selects RX9 yX9_way yX9_way ∈ gG := gG_5 143 rfl rfl
theorem gw_5_144 : Cond.code yX9_way prog_11_method_18_code 5 (some .int) ∈ gG := gG_5 144 rfl rfl
theorem gw_5_145 : Cond.methodLink RX9 151 yX9_adds ∈ gG := gG_5 145 rfl rfl
theorem gw_5_147 : Cond.instanceMethod yX9_adds ∈ gG := gG_5 147 rfl rfl
theorem gw_5_148 : Cond.code yX9_adds prog_11_method_17_code 6 none ∈ gG := gG_5 148 rfl rfl
theorem gw_5_149 : Cond.methodLink RL 128 yX9_empty ∈ gG := gG_5 149 rfl rfl
theorem gw_5_150 : Cond.instanceMethod yX9_empty ∈ gG := gG_5 150 rfl rfl
theorem gw_5_151 : Cond.selects RX9 yX9_empty yX9_empty ∈ gG := gG_5 151 rfl rfl
theorem gw_5_152 : Cond.code yX9_empty prog_11_method_28_code 1 (some .int) ∈ gG := gG_5 152 rfl rfl
theorem gw_5_153 : Cond.methodLink RX9 186 yX9_emptied ∈ gG := gG_5 153 rfl rfl
theorem gw_5_155 : Cond.instanceMethod yX9_emptied ∈ gG := gG_5 155 rfl rfl
theorem gw_5_156 : Cond.code yX9_emptied prog_11_method_27_code 5 (some .int) ∈ gG := gG_5 156 rfl rfl
theorem gw_5_157 : Cond.methodLink RX9 183 yX9_more ∈ gG := gG_5 157 rfl rfl
theorem gw_5_159 : Cond.instanceMethod yX9_more ∈ gG := gG_5 159 rfl rfl
theorem gw_5_160 : Cond.code yX9_more prog_11_method_25_code 6 (some .int) ∈ gG := gG_5 160 rfl rfl
theorem gw_5_161 : Cond.methodLink RX9 162 yX9_nodeOf ∈ gG := gG_5 161 rfl rfl
theorem gw_5_162 : Cond.static yX9_nodeOf ∈ gG := gG_5 162 rfl rfl
theorem gw_5_163 : Cond.code yX9_nodeOf prog_11_method_20_code 2 (some .int) ∈ gG := gG_5 163 rfl rfl
theorem gw_5_164 : Cond.methodLink RX9 158 yX9_comes ∈ gG := gG_5 164 rfl rfl
theorem gw_5_166 : Cond.instanceMethod yX9_comes ∈ gG := gG_5 166 rfl rfl
theorem gw_5_167 : Cond.code yX9_comes prog_11_method_21_code 5 none ∈ gG := gG_5 167 rfl rfl
theorem gw_5_168 : Cond.methodLink RX9 167 yX9_leads ∈ gG := gG_5 168 rfl rfl
theorem gw_5_170 : Cond.instanceMethod yX9_leads ∈ gG := gG_5 170 rfl rfl
theorem gw_5_171 : Cond.code yX9_leads prog_11_method_26_code 4 (some .int) ∈ gG := gG_5 171 rfl rfl
theorem gw_5_172 : Cond.methodLink RX9 174 yX9_bears ∈ gG := gG_5 172 rfl rfl
theorem gw_5_174 : Cond.instanceMethod yX9_bears ∈ gG := gG_5 174 rfl rfl
theorem gw_5_175 : Cond.code yX9_bears prog_11_method_23_code 4 (some .int) ∈ gG := gG_5 175 rfl rfl
theorem gw_5_176 : Cond.constant RX9 166 (1000000) ∈ gG := gG_5 176 rfl rfl
theorem gw_5_177 : Cond.methodLink RX9 177 Lib.Math.min.name ∈ gG := gG_5 177 rfl rfl
theorem gw_5_178 : Cond.methodLink RX9 180 yX9_sends ∈ gG := gG_5 178 rfl rfl
theorem gw_5_180 : Cond.instanceMethod yX9_sends ∈ gG := gG_5 180 rfl rfl
theorem gw_5_181 : Cond.code yX9_sends prog_11_method_24_code 5 none ∈ gG := gG_5 181 rfl rfl
theorem gw_5_182 : Cond.methodLink RX9 170 yX9_spreads ∈ gG := gG_5 182 rfl rfl
theorem gw_5_184 : Cond.instanceMethod yX9_spreads ∈ gG := gG_5 184 rfl rfl
theorem gw_5_185 : Cond.code yX9_spreads prog_11_method_22_code 6 none ∈ gG := gG_5 185 rfl rfl
theorem gw_5_186 : Cond.methodLink RL 132 yX9_worst ∈ gG := gG_5 186 rfl rfl
theorem gw_5_187 : Cond.instanceMethod yX9_worst ∈ gG := gG_5 187 rfl rfl
theorem gw_5_188 : Cond.selects RX9 yX9_worst yX9_worst ∈ gG := gG_5 188 rfl rfl
theorem gw_5_189 : Cond.code yX9_worst prog_11_method_30_code 1 (some .int) ∈ gG := gG_5 189 rfl rfl
theorem gw_5_190 : Cond.methodLink RX9 192 yX9_worstOf ∈ gG := gG_5 190 rfl rfl
theorem gw_5_192 : Cond.instanceMethod yX9_worstOf ∈ gG := gG_5 192 rfl rfl
theorem gw_5_193 : Cond.code yX9_worstOf prog_11_method_29_code 4 (some .int) ∈ gG := gG_5 193 rfl rfl
theorem gw_5_194 : Cond.methodLink RX9 189 Lib.Math.max.name ∈ gG := gG_5 194 rfl rfl
theorem gw_5_195 : Cond.methodLink RL 136 yX9_act ∈ gG := gG_5 195 rfl rfl
theorem gw_5_196 : Cond.instanceMethod yX9_act ∈ gG := gG_5 196 rfl rfl
theorem gw_5_197 : Cond.selects RX9 yX9_act yX9_act ∈ gG := gG_5 197 rfl rfl
theorem gw_5_198 : Cond.code yX9_act prog_11_method_31_code 5 (some .int) ∈ gG := gG_5 198 rfl rfl
theorem gw_5_199 : Cond.methodLink RL 140 yX9_tooMany ∈ gG := gG_5 199 rfl rfl
theorem gw_5_200 : Cond.instanceMethod yX9_tooMany ∈ gG := gG_5 200 rfl rfl
theorem gw_5_201 : Cond.selects RX9 yX9_tooMany yX9_tooMany ∈ gG := gG_5 201 rfl rfl
theorem gw_5_202 : Cond.code yX9_tooMany prog_11_method_35_code 1 (some .int) ∈ gG := gG_5 202 rfl rfl
theorem gw_5_203 : Cond.methodLink RX9 205 yX9_seeks ∈ gG := gG_5 203 rfl rfl
theorem gw_5_205 : Cond.instanceMethod yX9_seeks ∈ gG := gG_5 205 rfl rfl
theorem gw_5_206 : Cond.code yX9_seeks prog_11_method_34_code 6 (some .int) ∈ gG := gG_5 206 rfl rfl
theorem gw_5_207 : Cond.methodLink RX9 202 yX9_aboveOfAll ∈ gG := gG_5 207 rfl rfl
theorem gw_5_209 : Cond.instanceMethod yX9_aboveOfAll ∈ gG := gG_5 209 rfl rfl
theorem gw_5_210 : Cond.code yX9_aboveOfAll prog_11_method_33_code 4 (some .int) ∈ gG := gG_5 210 rfl rfl
theorem gw_5_211 : Cond.methodLink RX9 199 yX9_above ∈ gG := gG_5 211 rfl rfl
theorem gw_5_213 : Cond.instanceMethod yX9_above ∈ gG := gG_5 213 rfl rfl
theorem gw_5_214 : Cond.code yX9_above prog_11_method_32_code 5 (some .int) ∈ gG := gG_5 214 rfl rfl
theorem gw_5_215 : Cond.methodLink RL 143 yX9_shift ∈ gG := gG_5 215 rfl rfl
theorem gw_5_216 : Cond.instanceMethod yX9_shift ∈ gG := gG_5 216 rfl rfl
theorem gw_5_217 : Cond.selects RX9 yX9_shift yX9_shift ∈ gG := gG_5 217 rfl rfl
theorem gw_5_218 : Cond.code yX9_shift prog_11_method_36_code 3 (some .int) ∈ gG := gG_5 218 rfl rfl
theorem gw_5_219 : Cond.methodLink RL 147 yX9_forget ∈ gG := gG_5 219 rfl rfl
theorem gw_5_220 : Cond.instanceMethod yX9_forget ∈ gG := gG_5 220 rfl rfl
theorem gw_5_221 : Cond.selects RX9 yX9_forget yX9_forget ∈ gG := gG_5 221 rfl rfl
theorem gw_5_222 : Cond.code yX9_forget prog_11_method_37_code 2 (some .int) ∈ gG := gG_5 222 rfl rfl
theorem gw_5_223 : Cond.methodLink RL 150 yX9_minutes ∈ gG := gG_5 223 rfl rfl
theorem gw_5_224 : Cond.instanceMethod yX9_minutes ∈ gG := gG_5 224 rfl rfl
theorem gw_5_225 : Cond.selects RX9 yX9_minutes yX9_minutes ∈ gG := gG_5 225 rfl rfl
theorem gw_5_226 : Cond.code yX9_minutes prog_11_method_38_code 2 (some .int) ∈ gG := gG_5 226 rfl rfl
theorem gw_5_227 : Cond.methodLink RL 154 yX9_pass ∈ gG := gG_5 227 rfl rfl
theorem gw_5_228 : Cond.instanceMethod yX9_pass ∈ gG := gG_5 228 rfl rfl
theorem gw_5_229 : Cond.selects RX9 yX9_pass yX9_pass ∈ gG := gG_5 229 rfl rfl
theorem gw_5_230 : Cond.code yX9_pass prog_11_method_40_code 4 (some .int) ∈ gG := gG_5 230 rfl rfl
theorem gw_5_231 : Cond.methodLink RX9 211 yX9_noBand ∈ gG := gG_5 231 rfl rfl
theorem gw_5_232 : Cond.static yX9_noBand ∈ gG := gG_5 232 rfl rfl
theorem gw_5_233 : Cond.code yX9_noBand prog_11_method_39_code 1 (some .boolean) ∈ gG := gG_5 233 rfl rfl
theorem gw_5_234 : Cond.methodLink RL 158 yX9_inside ∈ gG := gG_5 234 rfl rfl
theorem gw_5_235 : Cond.instanceMethod yX9_inside ∈ gG := gG_5 235 rfl rfl
theorem gw_5_236 : Cond.selects RX9 yX9_inside yX9_inside ∈ gG := gG_5 236 rfl rfl
theorem gw_5_237 : Cond.code yX9_inside prog_11_method_43_code 4 (some .boolean) ∈ gG := gG_5 237 rfl rfl
theorem gw_5_238 : Cond.methodLink RX9 221 yX9_isInside ∈ gG := gG_5 238 rfl rfl
theorem gw_6_0 : Cond.instanceMethod yX9_isInside ∈ gG := gG_6 0 rfl rfl
theorem gw_6_1 : Cond.code yX9_isInside prog_11_method_42_code 5 (some .boolean) ∈ gG := gG_6 1 rfl rfl
theorem gw_6_2 : Cond.methodLink RX9 217 yX9_lastOf ∈ gG := gG_6 2 rfl rfl
theorem gw_6_4 : Cond.instanceMethod yX9_lastOf ∈ gG := gG_6 4 rfl rfl
theorem gw_6_5 : Cond.code yX9_lastOf prog_11_method_41_code 7 (some .int) ∈ gG := gG_6 5 rfl rfl
theorem gw_6_6 : Cond.methodLink RL 163 yX9_within ∈ gG := gG_6 6 rfl rfl
theorem gw_6_7 : Cond.instanceMethod yX9_within ∈ gG := gG_6 7 rfl rfl
theorem gw_6_8 : Cond.selects RX9 yX9_within yX9_within ∈ gG := gG_6 8 rfl rfl
theorem gw_6_9 : Cond.code yX9_within prog_11_method_44_code 8 (some .int) ∈ gG := gG_6 9 rfl rfl
theorem gw_6_10 : Cond.methodLink RL 82 yX9_feed ∈ gG := gG_6 10 rfl rfl
theorem gw_6_11 : Cond.instanceMethod yX9_feed ∈ gG := gG_6 11 rfl rfl
theorem gw_6_12 : Cond.selects RX9 yX9_feed yX9_feed ∈ gG := gG_6 12 rfl rfl
theorem gw_6_13 : Cond.code yX9_feed prog_11_method_45_code 7 (some .int) ∈ gG := gG_6 13 rfl rfl
theorem gw_6_14 : Cond.methodLink RL 86 yX9_end ∈ gG := gG_6 14 rfl rfl
theorem gw_6_15 : Cond.instanceMethod yX9_end ∈ gG := gG_6 15 rfl rfl
theorem gw_6_16 : Cond.selects RX9 yX9_end yX9_end ∈ gG := gG_6 16 rfl rfl
theorem gw_6_17 : Cond.code yX9_end prog_11_method_46_code 2 (some .boolean) ∈ gG := gG_6 17 rfl rfl
theorem gw_6_18 : Cond.methodLink RL 166 yX9_noise ∈ gG := gG_6 18 rfl rfl
theorem gw_6_19 : Cond.instanceMethod yX9_noise ∈ gG := gG_6 19 rfl rfl
theorem gw_6_20 : Cond.selects RX9 yX9_noise yX9_noise ∈ gG := gG_6 20 rfl rfl
theorem gw_6_21 : Cond.code yX9_noise prog_11_method_47_code 3 none ∈ gG := gG_6 21 rfl rfl
theorem gw_6_22 : Cond.methodLink RL 170 yX9_licence ∈ gG := gG_6 22 rfl rfl
theorem gw_6_23 : Cond.instanceMethod yX9_licence ∈ gG := gG_6 23 rfl rfl
theorem gw_6_24 : Cond.selects RX9 yX9_licence yX9_licence ∈ gG := gG_6 24 rfl rfl
theorem gw_6_25 : Cond.code yX9_licence prog_11_method_55_code 3 (some .int) ∈ gG := gG_6 25 rfl rfl
theorem gw_6_26 : Cond.methodLink RX9 274 yX9_readAll ∈ gG := gG_6 26 rfl rfl
theorem gw_6_28 : Cond.instanceMethod yX9_readAll ∈ gG := gG_6 28 rfl rfl
theorem gw_6_29 : Cond.code yX9_readAll prog_11_method_54_code 2 (some .int) ∈ gG := gG_6 29 rfl rfl
theorem gw_6_30 : Cond.methodLink RX9 271 yX9_readTerm ∈ gG := gG_6 30 rfl rfl
theorem gw_6_32 : Cond.instanceMethod yX9_readTerm ∈ gG := gG_6 32 rfl rfl
theorem gw_6_33 : Cond.code yX9_readTerm prog_11_method_53_code 3 (some .boolean) ∈ gG := gG_6 33 rfl rfl
theorem gw_6_34 : Cond.methodLink RX9 251 yX9_word ∈ gG := gG_6 34 rfl rfl
theorem gw_6_36 : Cond.instanceMethod yX9_word ∈ gG := gG_6 36 rfl rfl
theorem gw_6_37 : Cond.code yX9_word prog_11_method_50_code 1 none ∈ gG := gG_6 37 rfl rfl
theorem gw_6_38 : Cond.methodLink RX9 240 yX9_blanks ∈ gG := gG_6 38 rfl rfl
theorem gw_6_40 : Cond.instanceMethod yX9_blanks ∈ gG := gG_6 40 rfl rfl
theorem gw_6_41 : Cond.code yX9_blanks prog_11_method_49_code 1 none ∈ gG := gG_6 41 rfl rfl
theorem gw_6_42 : Cond.methodLink RX9 233 yX9_isAt ∈ gG := gG_6 42 rfl rfl
theorem gw_6_44 : Cond.instanceMethod yX9_isAt ∈ gG := gG_6 44 rfl rfl
theorem gw_6_45 : Cond.code yX9_isAt prog_11_method_48_code 3 (some .boolean) ∈ gG := gG_6 45 rfl rfl
theorem gw_6_47 : Cond.methodLink RX9 255 yX9_isWord ∈ gG := gG_6 47 rfl rfl
theorem gw_6_49 : Cond.instanceMethod yX9_isWord ∈ gG := gG_6 49 rfl rfl
theorem gw_6_50 : Cond.code yX9_isWord prog_11_method_51_code 4 (some .boolean) ∈ gG := gG_6 50 rfl rfl
theorem gw_6_51 : Cond.methodLink RX9 243 yJ0_length_8abf5 ∈ gG := gG_6 51 rfl rfl
theorem gw_6_52 : Cond.methodLink RX9 247 yJ0_charAt_5068e ∈ gG := gG_6 52 rfl rfl
theorem gw_6_57 : Cond.constant RX9 265 (160000) ∈ gG := gG_6 57 rfl rfl
theorem gw_6_58 : Cond.methodLink RX9 266 yX9_number ∈ gG := gG_6 58 rfl rfl
theorem gw_6_60 : Cond.instanceMethod yX9_number ∈ gG := gG_6 60 rfl rfl
theorem gw_6_61 : Cond.code yX9_number prog_11_method_52_code 5 (some .boolean) ∈ gG := gG_6 61 rfl rfl
theorem gw_6_64 : Cond.methodLink RL 174 yX9_fault ∈ gG := gG_6 64 rfl rfl
theorem gw_6_65 : Cond.instanceMethod yX9_fault ∈ gG := gG_6 65 rfl rfl
theorem gw_6_66 : Cond.selects RX9 yX9_fault yX9_fault ∈ gG := gG_6 66 rfl rfl
theorem gw_6_67 : Cond.code yX9_fault prog_11_method_56_code 1 (some .int) ∈ gG := gG_6 67 rfl rfl
theorem gw_6_68 : Cond.methodLink RL 178 yX9_broken ∈ gG := gG_6 68 rfl rfl
theorem gw_6_69 : Cond.instanceMethod yX9_broken ∈ gG := gG_6 69 rfl rfl
theorem gw_6_70 : Cond.selects RX9 yX9_broken yX9_broken ∈ gG := gG_6 70 rfl rfl
theorem gw_6_71 : Cond.code yX9_broken prog_11_method_58_code 2 (some .int) ∈ gG := gG_6 71 rfl rfl
theorem gw_6_72 : Cond.methodLink RX9 286 yX9_holds ∈ gG := gG_6 72 rfl rfl
theorem gw_6_74 : Cond.instanceMethod yX9_holds ∈ gG := gG_6 74 rfl rfl
theorem gw_6_75 : Cond.code yX9_holds prog_11_method_57_code 5 (some .boolean) ∈ gG := gG_6 75 rfl rfl
theorem gw_6_76 : Cond.methodLink RX9 280 yX9_crowdOfAll ∈ gG := gG_6 76 rfl rfl
theorem gw_6_78 : Cond.instanceMethod yX9_crowdOfAll ∈ gG := gG_6 78 rfl rfl
theorem gw_6_79 : Cond.code yX9_crowdOfAll prog_11_method_19_code 3 (some .int) ∈ gG := gG_6 79 rfl rfl
theorem gw_6_80 : Cond.methodLink RX9 283 yX9_standing ∈ gG := gG_6 80 rfl rfl
theorem gw_6_82 : Cond.instanceMethod yX9_standing ∈ gG := gG_6 82 rfl rfl
theorem gw_6_83 : Cond.code yX9_standing prog_11_method_12_code 3 (some .int) ∈ gG := gG_6 83 rfl rfl
theorem gw_6_84 : Cond.methodLink RL 182 yX9_count ∈ gG := gG_6 84 rfl rfl
theorem gw_6_85 : Cond.instanceMethod yX9_count ∈ gG := gG_6 85 rfl rfl
theorem gw_6_86 : Cond.selects RX9 yX9_count yX9_count ∈ gG := gG_6 86 rfl rfl
theorem gw_6_87 : Cond.code yX9_count prog_11_method_59_code 4 (some .int) ∈ gG := gG_6 87 rfl rfl
theorem gw_6_88 : Cond.arrayClass .long ∈ gG := gG_6 88 rfl rfl
theorem gw_6_90 : Cond.fieldLink RJ0 9 "java/lang/String" "value" "[B" ∈ gG := gG_6 90 rfl rfl
theorem gw_6_91 : Cond.fieldLink RJ0 15 "java/lang/String" "coder" "B" ∈ gG := gG_6 91 rfl rfl
theorem gwp_0 : Cond.selects RX0 yX0_startAnew yX0_startAnew ∈ gG := gG_p 0 (q := (yX0_startAnew, 12)) rfl
theorem gwp_1 : Cond.selects RX0 yX0_openGates yX0_openGates ∈ gG := gG_p 1 (q := (yX0_openGates, 12)) rfl
theorem gwp_2 : Cond.selects RX0 yX0_findStart yX0_findStart ∈ gG := gG_p 2 (q := (yX0_findStart, 12)) rfl
theorem gwp_3 : Cond.selects RX0 yX0_reachGates yX0_reachGates ∈ gG := gG_p 3 (q := (yX0_reachGates, 12)) rfl
theorem gwp_4 : Cond.selects RX0 yX0_reach yX0_reach ∈ gG := gG_p 4 (q := (yX0_reach, 12)) rfl
theorem gwp_5 : Cond.selects RX0 yX0_latestNew yX0_latestNew ∈ gG := gG_p 5 (q := (yX0_latestNew, 12)) rfl
theorem gwp_6 : Cond.selects RX0 yX0_reachByWaitingLess yX0_reachByWaitingLess ∈ gG := gG_p 6 (q := (yX0_reachByWaitingLess, 12)) rfl
theorem gwp_7 : Cond.selects RX0 yX0_reachByArc yX0_reachByArc ∈ gG := gG_p 7 (q := (yX0_reachByArc, 12)) rfl
theorem gwp_8 : Cond.selects RX0 yX0_goesOnAt yX0_goesOnAt ∈ gG := gG_p 8 (q := (yX0_goesOnAt, 12)) rfl
theorem gwp_9 : Cond.selects RX0 yX0_reachByUndoing yX0_reachByUndoing ∈ gG := gG_p 9 (q := (yX0_reachByUndoing, 12)) rfl
theorem gwp_10 : Cond.selects RX0 yX0_sendFrom yX0_sendFrom ∈ gG := gG_p 10 (q := (yX0_sendFrom, 12)) rfl
theorem gwp_11 : Cond.selects RX0 yX0_letWait yX0_letWait ∈ gG := gG_p 11 (q := (yX0_letWait, 12)) rfl
theorem gwp_12 : Cond.selects RX0 yX0_takeArc yX0_takeArc ∈ gG := gG_p 12 (q := (yX0_takeArc, 12)) rfl
theorem gwp_13 : Cond.selects RX0 yX0_undoArc yX0_undoArc ∈ gG := gG_p 13 (q := (yX0_undoArc, 12)) rfl
theorem gwp_14 : Cond.selects RX4 yX4_tryShifts yX4_tryShifts ∈ gG := gG_p 14 (q := (yX4_tryShifts, 10)) rfl
theorem gwp_15 : Cond.selects RX4 yX4_addedOver yX4_addedOver ∈ gG := gG_p 15 (q := (yX4_addedOver, 10)) rfl
theorem gwp_16 : Cond.selects RX4 yX4_sentBefore yX4_sentBefore ∈ gG := gG_p 16 (q := (yX4_sentBefore, 10)) rfl
theorem gwp_17 : Cond.selects RX8 yX8_holds yX8_holds ∈ gG := gG_p 17 (q := (yX8_holds, 11)) rfl
theorem gwp_18 : Cond.selects RX8 yX8_isQuiet yX8_isQuiet ∈ gG := gG_p 18 (q := (yX8_isQuiet, 11)) rfl
theorem gwp_20 : Cond.selects RX3 yX3_nearestCorner yX3_nearestCorner ∈ gG := gG_p 20 (q := (yX3_nearestCorner, 4)) rfl
theorem gwp_21 : Cond.selects RX3 yX3_stepsFromGate yX3_stepsFromGate ∈ gG := gG_p 21 (q := (yX3_stepsFromGate, 4)) rfl
theorem gwp_22 : Cond.selects RX3 yX3_isFree yX3_isFree ∈ gG := gG_p 22 (q := (yX3_isFree, 4)) rfl
theorem gwp_23 : Cond.selects RX2 yX2_noteChange yX2_noteChange ∈ gG := gG_p 23 (q := (yX2_noteChange, 13)) rfl
theorem gwp_24 : Cond.selects RX2 yX2_addArc yX2_addArc ∈ gG := gG_p 24 (q := (yX2_addArc, 13)) rfl
theorem gwp_25 : Cond.selects RX1 yX1_putInOrder yX1_putInOrder ∈ gG := gG_p 25 (q := (yX1_putInOrder, 6)) rfl
theorem gwp_26 : Cond.selects RX1 yX1_isBehind yX1_isBehind ∈ gG := gG_p 26 (q := (yX1_isBehind, 6)) rfl
theorem gwp_27 : Cond.selects RX5 yX5_readTerm yX5_readTerm ∈ gG := gG_p 27 (q := (yX5_readTerm, 3)) rfl
theorem gwp_28 : Cond.selects RX5 yX5_skipBlanks yX5_skipBlanks ∈ gG := gG_p 28 (q := (yX5_skipBlanks, 3)) rfl
theorem gwp_29 : Cond.selects RX5 yX5_kindHere yX5_kindHere ∈ gG := gG_p 29 (q := (yX5_kindHere, 3)) rfl
theorem gwp_30 : Cond.selects RX5 yX5_isWordHere yX5_isWordHere ∈ gG := gG_p 30 (q := (yX5_isWordHere, 3)) rfl
theorem gwp_31 : Cond.selects RX5 yX5_skipWord yX5_skipWord ∈ gG := gG_p 31 (q := (yX5_skipWord, 3)) rfl
theorem gwp_32 : Cond.selects RX5 yX5_readNumber yX5_readNumber ∈ gG := gG_p 32 (q := (yX5_readNumber, 3)) rfl
theorem gwp_33 : Cond.selects RX5 yX5_readWord yX5_readWord ∈ gG := gG_p 33 (q := (yX5_readWord, 3)) rfl
theorem gwp_34 : Cond.selects RX9 yX9_throwsIf yX9_throwsIf ∈ gG := gG_p 34 (q := (yX9_throwsIf, 47)) rfl
theorem gwp_35 : Cond.selects RX9 yX9_isFree yX9_isFree ∈ gG := gG_p 35 (q := (yX9_isFree, 47)) rfl
theorem gwp_36 : Cond.selects RX9 yX9_noPlace yX9_noPlace ∈ gG := gG_p 36 (q := (yX9_noPlace, 47)) rfl
theorem gwp_37 : Cond.selects RX9 yX9_adds yX9_adds ∈ gG := gG_p 37 (q := (yX9_adds, 47)) rfl
theorem gwp_38 : Cond.selects RX9 yX9_emptied yX9_emptied ∈ gG := gG_p 38 (q := (yX9_emptied, 47)) rfl
theorem gwp_39 : Cond.selects RX9 yX9_more yX9_more ∈ gG := gG_p 39 (q := (yX9_more, 47)) rfl
theorem gwp_40 : Cond.selects RX9 yX9_comes yX9_comes ∈ gG := gG_p 40 (q := (yX9_comes, 47)) rfl
theorem gwp_41 : Cond.selects RX9 yX9_leads yX9_leads ∈ gG := gG_p 41 (q := (yX9_leads, 47)) rfl
theorem gwp_42 : Cond.selects RX9 yX9_bears yX9_bears ∈ gG := gG_p 42 (q := (yX9_bears, 47)) rfl
theorem gwp_43 : Cond.selects RX9 yX9_sends yX9_sends ∈ gG := gG_p 43 (q := (yX9_sends, 47)) rfl
theorem gwp_44 : Cond.selects RX9 yX9_spreads yX9_spreads ∈ gG := gG_p 44 (q := (yX9_spreads, 47)) rfl
theorem gwp_45 : Cond.selects RX9 yX9_worstOf yX9_worstOf ∈ gG := gG_p 45 (q := (yX9_worstOf, 47)) rfl
theorem gwp_46 : Cond.selects RX9 yX9_seeks yX9_seeks ∈ gG := gG_p 46 (q := (yX9_seeks, 47)) rfl
theorem gwp_47 : Cond.selects RX9 yX9_aboveOfAll yX9_aboveOfAll ∈ gG := gG_p 47 (q := (yX9_aboveOfAll, 47)) rfl
theorem gwp_48 : Cond.selects RX9 yX9_above yX9_above ∈ gG := gG_p 48 (q := (yX9_above, 47)) rfl
theorem gwp_49 : Cond.selects RX9 yX9_isInside yX9_isInside ∈ gG := gG_p 49 (q := (yX9_isInside, 47)) rfl
theorem gwp_50 : Cond.selects RX9 yX9_lastOf yX9_lastOf ∈ gG := gG_p 50 (q := (yX9_lastOf, 47)) rfl
theorem gwp_51 : Cond.selects RX9 yX9_readAll yX9_readAll ∈ gG := gG_p 51 (q := (yX9_readAll, 47)) rfl
theorem gwp_52 : Cond.selects RX9 yX9_readTerm yX9_readTerm ∈ gG := gG_p 52 (q := (yX9_readTerm, 47)) rfl
theorem gwp_53 : Cond.selects RX9 yX9_word yX9_word ∈ gG := gG_p 53 (q := (yX9_word, 47)) rfl
theorem gwp_54 : Cond.selects RX9 yX9_blanks yX9_blanks ∈ gG := gG_p 54 (q := (yX9_blanks, 47)) rfl
theorem gwp_55 : Cond.selects RX9 yX9_isAt yX9_isAt ∈ gG := gG_p 55 (q := (yX9_isAt, 47)) rfl
theorem gwp_56 : Cond.selects RX9 yX9_isWord yX9_isWord ∈ gG := gG_p 56 (q := (yX9_isWord, 47)) rfl
theorem gwp_57 : Cond.selects RX9 yX9_number yX9_number ∈ gG := gG_p 57 (q := (yX9_number, 47)) rfl
theorem gwp_58 : Cond.selects RX9 yX9_holds yX9_holds ∈ gG := gG_p 58 (q := (yX9_holds, 47)) rfl
theorem gwp_59 : Cond.selects RX9 yX9_crowdOfAll yX9_crowdOfAll ∈ gG := gG_p 59 (q := (yX9_crowdOfAll, 47)) rfl
theorem gwp_60 : Cond.selects RX9 yX9_standing yX9_standing ∈ gG := gG_p 60 (q := (yX9_standing, 47)) rfl
theorem gin_X0 : ∀ w ∈ u_ws RX0 TX0 12, w ∈ gG := fun w h => gG_t ((by decide +kernel : ∀ w ∈ u_ws RX0 TX0 12, w ∈ tables_1) w h) (List.all_eq_true.mp (by decide +kernel : (u_ws RX0 TX0 12).all goodWord = true) w h)
theorem gin_X1 : ∀ w ∈ u_ws RX1 TX1 6, w ∈ gG := fun w h => gG_t ((by decide +kernel : ∀ w ∈ u_ws RX1 TX1 6, w ∈ tables_1) w h) (List.all_eq_true.mp (by decide +kernel : (u_ws RX1 TX1 6).all goodWord = true) w h)
theorem gin_X2 : ∀ w ∈ u_ws RX2 TX2 13, w ∈ gG := fun w h => gG_t ((by decide +kernel : ∀ w ∈ u_ws RX2 TX2 13, w ∈ tables_1) w h) (List.all_eq_true.mp (by decide +kernel : (u_ws RX2 TX2 13).all goodWord = true) w h)
theorem gin_X3 : ∀ w ∈ u_ws RX3 TX3 4, w ∈ gG := fun w h => gG_t ((by decide +kernel : ∀ w ∈ u_ws RX3 TX3 4, w ∈ tables_1) w h) (List.all_eq_true.mp (by decide +kernel : (u_ws RX3 TX3 4).all goodWord = true) w h)
theorem gin_X4 : ∀ w ∈ u_ws RX4 TX4 10, w ∈ gG := fun w h => gG_t ((by decide +kernel : ∀ w ∈ u_ws RX4 TX4 10, w ∈ tables_1) w h) (List.all_eq_true.mp (by decide +kernel : (u_ws RX4 TX4 10).all goodWord = true) w h)
theorem gin_X5 : ∀ w ∈ u_ws RX5 TX5 3, w ∈ gG := fun w h => gG_t ((by decide +kernel : ∀ w ∈ u_ws RX5 TX5 3, w ∈ tables_1) w h) (List.all_eq_true.mp (by decide +kernel : (u_ws RX5 TX5 3).all goodWord = true) w h)
theorem gin_X6 : ∀ w ∈ u_ws RX6 TX6 2, w ∈ gG := fun w h => gG_t ((by decide +kernel : ∀ w ∈ u_ws RX6 TX6 2, w ∈ tables_1) w h) (List.all_eq_true.mp (by decide +kernel : (u_ws RX6 TX6 2).all goodWord = true) w h)
theorem gin_X7 : ∀ w ∈ u_ws RX7 TX7 5, w ∈ gG := fun w h => gG_t ((by decide +kernel : ∀ w ∈ u_ws RX7 TX7 5, w ∈ tables_1) w h) (List.all_eq_true.mp (by decide +kernel : (u_ws RX7 TX7 5).all goodWord = true) w h)
theorem gin_X8 : ∀ w ∈ u_ws RX8 TX8 11, w ∈ gG := fun w h => gG_t ((by decide +kernel : ∀ w ∈ u_ws RX8 TX8 11, w ∈ tables_1) w h) (List.all_eq_true.mp (by decide +kernel : (u_ws RX8 TX8 11).all goodWord = true) w h)
theorem gin_X9 : ∀ w ∈ u_ws RX9 TX9 47, w ∈ gG := fun w h => gG_t ((by decide +kernel : ∀ w ∈ u_ws RX9 TX9 47, w ∈ tables_1) w h) (List.all_eq_true.mp (by decide +kernel : (u_ws RX9 TX9 47).all goodWord = true) w h)
end
section
/-! THE ONE WORLD: cells gW, a state gS is a number for each key and place; printed by wip/gen/world.py -/
abbrev gS : Type := Nat → Nat → Int32
def gu (σ : gS) (k i : Nat) (v : Int32) : gS := fun k' => if k' = k then upd (σ k) i v else σ k'
def gtj (v : Int32) : Nat := if v = 0 then 8 else 9
def gtv (j : Nat) : Int32 := if j = 8 then 0 else 1
def gtc (j : Nat) : Nat := if j = 8 then 11 else 15
def gtk (j : Nat) : Nat := if j = 8 then 0 else 5
def gnl (a : Nat) (v : Int32) : Value := if v = 0 then .null else .ref a
theorem gtj_or (v : Int32) : gtj v = 8 ∨ gtj v = 9 := by unfold gtj; split <;> simp
theorem gtj_v {j : Nat} (h : j = 8 ∨ j = 9) : gtj (gtv j) = j := by rcases h with rfl | rfl <;> decide
abbrev gT (cy : Nat → ClassId) : List (ClassId × FieldType) := [(cy 0, .int), (cy 1, .boolean), (cy 2, .byte), (cy 3, .long)]
abbrev gW (cy : Nat → ClassId) (ad : Nat → Nat) (σ : gS) : va_W := [
  (ad 0, .inr (8, [.ref (ad 1), .ref (ad 2), .ref (ad 3), .ref (ad 4), .ref (ad 6), .ref (ad 7), .ref (ad 19), .ref (ad (gtj (σ 11 0))), .ref (ad (gtj (σ 12 0))), .int (σ 13 0), .int (σ 14 0)])),
  (ad 1, .inr (6, [.ref (ad 20), .int (σ 16 0)])),
  (ad 2, .inr (5, [.ref (ad 1), .int (σ 17 0), .int (σ 18 0)])),
  (ad 3, .inr (3, [.ref (ad 21), .int (σ 20 0), .int (σ 21 0), .int (σ 22 0)])),
  (ad 4, .inr (2, [.ref (ad 22), .ref (ad 23), .ref (ad 24), .int (σ 26 0), .ref (ad 25), .ref (ad 26), .ref (ad 27), .int (σ 30 0), .ref (ad 28), .ref (ad 29), .ref (ad 5), .int (σ 33 0), .int (σ 34 0)])),
  (ad 5, .inr (0, [gnl (ad 4) (σ 35 0), .int (σ 36 0), .ref (ad 30), .ref (ad 31), .ref (ad 32), .ref (ad 33), .ref (ad 34), .ref (ad 35), .ref (ad 36), .ref (ad 37), .ref (ad 38), .ref (ad 39)])),
  (ad 6, .inr (4, [.ref (ad 40), .ref (ad 41), .ref (ad 42), .ref (ad 43), .int (σ 51 0), .ref (ad 44), .ref (ad 45), .int (σ 54 0), .int (σ 55 0), .int (σ 56 0)])),
  (ad 7, .inr (1, [.ref (ad 46), .ref (ad 47), .ref (ad 48), .ref (ad 49), .ref (ad 50), .int (σ 62 0)])),
  (ad 8, .inr (7, [.ref (ad 11), .ref (ad 12), .ref (ad 13), .ref (ad 14), .int (σ 4 0)])),
  (ad 9, .inr (7, [.ref (ad 15), .ref (ad 16), .ref (ad 17), .ref (ad 18), .int (σ 9 0)])),
  (ad 10, .inr (9, [.int (σ 63 0), .ref (ad 51), .ref (ad 52), .int (σ 66 0), .int (σ 67 0), .ref (ad 53), .ref (ad 54), .ref (ad 55), .int (σ 71 0), .ref (ad 56), .ref (ad 57), .ref (ad 58), .ref (ad 59), .int (σ 76 0), .ref (ad 60), .ref (ad 61), .ref (ad 62), .ref (ad 63), .ref (ad 64), .ref (ad 65), .ref (ad 66), .ref (ad 67), .ref (ad 68), .int (σ 86 0), .ref (ad 69), .ref (ad 70), .ref (ad 71), .int (σ 90 0), .ref (ad 72), .ref (ad 73), .int (σ 93 0), .ref (ad 74), .ref (ad 75), .ref (ad 76), .ref (ad 77), .int (σ 98 0), .ref (ad 78), .ref (ad 79), .int (σ 101 0), .ref (ad 80), .ref (ad 81), .int (σ 104 0), .int (σ 105 0), .int (σ 106 0), .int (σ 107 0), .int (σ 108 0), .ref (ad 82)])),
  (ad 11, .inl (cy 0, 12, .inl (σ 0))),
  (ad 12, .inl (cy 0, 12, .inl (σ 1))),
  (ad 13, .inl (cy 0, 12, .inl (σ 2))),
  (ad 14, .inl (cy 0, 12, .inl (σ 3))),
  (ad 15, .inl (cy 0, 12, .inl (σ 5))),
  (ad 16, .inl (cy 0, 12, .inl (σ 6))),
  (ad 17, .inl (cy 0, 12, .inl (σ 7))),
  (ad 18, .inl (cy 0, 12, .inl (σ 8))),
  (ad 19, .inl (cy 0, 24, .inl (σ 10))),
  (ad 20, .inl (cy 0, 400, .inl (σ 15))),
  (ad 21, .inl (cy 0, 192, .inl (σ 19))),
  (ad 22, .inl (cy 0, 8, .inl (σ 23))),
  (ad 23, .inl (cy 0, 8, .inl (σ 24))),
  (ad 24, .inl (cy 1, 8, .inl (σ 25))),
  (ad 25, .inl (cy 0, 28, .inl (σ 27))),
  (ad 26, .inl (cy 0, 28, .inl (σ 28))),
  (ad 27, .inl (cy 0, 28, .inl (σ 29))),
  (ad 28, .inl (cy 0, 112, .inl (σ 31))),
  (ad 29, .inl (cy 0, 8, .inl (σ 32))),
  (ad 30, .inl (cy 0, 1120, .inl (σ 37))),
  (ad 31, .inl (cy 0, 320, .inl (σ 38))),
  (ad 32, .inl (cy 0, 28, .inl (σ 39))),
  (ad 33, .inl (cy 0, 8, .inl (σ 40))),
  (ad 34, .inl (cy 0, 8, .inl (σ 41))),
  (ad 35, .inl (cy 0, 8, .inl (σ 42))),
  (ad 36, .inl (cy 1, 8, .inl (σ 43))),
  (ad 37, .inl (cy 0, 320, .inl (σ 44))),
  (ad 38, .inl (cy 0, 320, .inl (σ 45))),
  (ad 39, .inl (cy 0, 320, .inl (σ 46))),
  (ad 40, .inl (cy 0, 6, .inl (σ 47))),
  (ad 41, .inl (cy 0, 6, .inl (σ 48))),
  (ad 42, .inl (cy 0, 6, .inl (σ 49))),
  (ad 43, .inl (cy 0, 6, .inl (σ 50))),
  (ad 44, .inl (cy 0, 6, .inl (σ 52))),
  (ad 45, .inl (cy 0, 6, .inl (σ 53))),
  (ad 46, .inl (cy 0, 200, .inl (σ 57))),
  (ad 47, .inl (cy 1, 200, .inl (σ 58))),
  (ad 48, .inl (cy 0, 200, .inl (σ 59))),
  (ad 49, .inl (cy 0, 200, .inl (σ 60))),
  (ad 50, .inl (cy 0, 200, .inl (σ 61))),
  (ad 51, .inl (cy 0, 192, .inl (σ 64))),
  (ad 52, .inl (cy 1, 60, .inl (σ 65))),
  (ad 53, .inl (cy 0, 8, .inl (σ 68))),
  (ad 54, .inl (cy 0, 8, .inl (σ 69))),
  (ad 55, .inl (cy 1, 8, .inl (σ 70))),
  (ad 56, .inl (cy 0, 28, .inl (σ 72))),
  (ad 57, .inl (cy 0, 28, .inl (σ 73))),
  (ad 58, .inl (cy 0, 28, .inl (σ 74))),
  (ad 59, .inl (cy 0, 28, .inl (σ 75))),
  (ad 60, .inl (cy 0, 320, .inl (σ 77))),
  (ad 61, .inl (cy 0, 1120, .inl (σ 78))),
  (ad 62, .inl (cy 0, 320, .inl (σ 79))),
  (ad 63, .inl (cy 0, 8, .inl (σ 80))),
  (ad 64, .inl (cy 0, 320, .inl (σ 81))),
  (ad 65, .inl (cy 0, 320, .inl (σ 82))),
  (ad 66, .inl (cy 1, 320, .inl (σ 83))),
  (ad 67, .inl (cy 1, 320, .inl (σ 84))),
  (ad 68, .inl (cy 0, 320, .inl (σ 85))),
  (ad 69, .inl (cy 0, 6, .inl (σ 87))),
  (ad 70, .inl (cy 0, 6, .inl (σ 88))),
  (ad 71, .inl (cy 0, 6, .inl (σ 89))),
  (ad 72, .inl (cy 0, 6, .inl (σ 91))),
  (ad 73, .inl (cy 0, 6, .inl (σ 92))),
  (ad 74, .inl (cy 0, 200, .inl (σ 94))),
  (ad 75, .inl (cy 1, 200, .inl (σ 95))),
  (ad 76, .inl (cy 0, 200, .inl (σ 96))),
  (ad 77, .inl (cy 0, 200, .inl (σ 97))),
  (ad 78, .inl (cy 0, 48, .inl (σ 99))),
  (ad 79, .inl (cy 0, 48, .inl (σ 100))),
  (ad 80, .inl (cy 0, 24, .inl (σ 102))),
  (ad 81, .inl (cy 2, 400, .inl (σ 103))),
  (ad 82, .inl (cy 0, 5, .inl (σ 109))),
  (ad 83, .inl (cy 3, 1, .inr (.inl (fun i => (σ 110 i).toInt64))))]
/-- the texts: those of the class's reader, then those of the model -/
def gTx : List (List Int32) := [[112, 101, 111, 112, 108, 101], [109, 105, 110, 117, 116, 101, 115], [119, 111, 114, 115, 116], [116, 101, 110, 116, 115], [110, 111, 105, 115, 101], [102, 114, 111, 109], [116, 111], [112, 101, 111, 112, 108, 101], [109, 105, 110, 117, 116, 101, 115], [119, 111, 114, 115, 116], [116, 101, 110, 116, 115], [110, 111, 105, 115, 101], [102, 114, 111, 109], [116, 111]]
def gTn (i : Nat) : Nat := (gTx.getD i []).length
def gTc (i j : Nat) : Int32 := (gTx.getD i []).getD j 0
def gRl : List (String × Nat × String × Nat) := [(RX5, 67, "people", 0), (RX5, 73, "minutes", 1), (RX5, 75, "worst", 2), (RX5, 77, "tents", 3), (RX5, 79, "noise", 4), (RX5, 55, "from", 5), (RX5, 61, "to", 6), (RX9, 254, "people", 7), (RX9, 259, "minutes", 8), (RX9, 261, "worst", 9), (RX9, 263, "tents", 10), (RX9, 264, "noise", 11), (RX9, 269, "from", 12), (RX9, 270, "to", 13)]
def gStr (ad : Nat → Nat) (A : Nat → Prop) (U : State) (H : Heap) : Prop := ∀ i : Nat, i < 14 → va_O "java/lang/String" (ad (200 + i)) A U H ∧ va_OF "java/lang/String" "coder" "B" (.int 0) (ad (200 + i)) A U H ∧ va_OF "java/lang/String" "value" "[B" (.ref (ad (220 + i))) (ad (200 + i)) A U H ∧ va_T .byte (ad (220 + i)) (gTn i) (fun j => .int (gTc i j)) A U H
def gNl : List Cond := [.declares ⟨"java/lang/RuntimeException", "<init>", "()V"⟩, .declares ⟨"java/lang/Exception", "<init>", "()V"⟩, .declares ⟨"java/lang/Throwable", "<init>", "()V"⟩, .castable "java/lang/IndexOutOfBoundsException" "java/lang/IndexOutOfBoundsException", .castable "java/lang/IllegalArgumentException" "java/lang/IllegalArgumentException", .castable "java/lang/UnsupportedOperationException" "java/lang/UnsupportedOperationException"]
def gN (U : State) : Prop := ∀ w ∈ gNl, va_Nw w U
theorem gNl_on : ∀ w ∈ gNl, w.onTables = true := by decide +kernel
theorem gN.warm {u U : State} (hW : u.WarmedH U.vm) (h : gN u) : gN U := by
  intro w hw
  have h1 := h w hw
  simp only [gNl, List.mem_cons, List.not_mem_nil, or_false] at hw
  rcases hw with rfl | rfl | rfl | rfl | rfl | rfl
  · exact va_Nw.warmD hW h1
  · exact va_Nw.warmD hW h1
  · exact va_Nw.warmD hW h1
  · exact va_Nw.warmC hW h1
  · exact va_Nw.warmC hW h1
  · exact va_Nw.warmC hW h1
theorem gN.same {u U : State} (hv : u.vm = U.vm) (h : gN u) : gN U := fun w hw => va_Nw.same (gNl_on w hw) hv (h w hw)
def gEx (k : Nat) : String := if k = 0 then "java/lang/IndexOutOfBoundsException" else if k = 1 then "java/lang/IllegalArgumentException" else "java/lang/UnsupportedOperationException"
def gNc (U : State) : Prop := ∀ i j : Nat, i < 3 → j < 3 → i ≠ j → va_Nc (gEx i) (gEx j) U
def gR (ad : Nat → Nat) (U : State) : Prop := ∀ q ∈ gRl, vk_R q.1 q.2.1 q.2.2.1 (ad (200 + q.2.2.2)) U
/-- what lies outside of the world, and is never written: what a throw wants, and the texts -/
def gZ (ad : Nat → Nat) (A : Nat → Prop) (U : State) (H : Heap) : Prop := vx_Zq Bundle.tN "UNASSIGNED_STACK" Bundle.steD A U H ∧ vx_Zq Bundle.tN "SUPPRESSED_SENTINEL" Bundle.listD A U H ∧ va_Z "java/lang/String" "COMPACT_STRINGS" "Z" (.int 1) A U H ∧ va_Zq "jdk/internal/util/Preconditions" "SIOOBE_FORMATTER" "Ljava/util/function/BiFunction;" A U H ∧ gStr ad A U H ∧ gR ad U ∧ gN U ∧ gNc U
theorem gZ.moved {ad : Nat → Nat} {A : Nat → Prop} {u U : State} {H : Heap} (hW : u.WarmedH U.vm) (h : gZ ad A u H) : gZ ad A U H :=
  ⟨h.1.moved hW.alike, h.2.1.moved hW.alike, h.2.2.1.moved hW.alike, h.2.2.2.1.moved hW.alike, fun i hi => ⟨(h.2.2.2.2.1 i hi).1.moved hW.alike, (h.2.2.2.2.1 i hi).2.1.moved hW.alike, (h.2.2.2.2.1 i hi).2.2.1.moved hW.alike, (h.2.2.2.2.1 i hi).2.2.2.moved hW.alike⟩, fun q hq => vk_R.warm hW (h.2.2.2.2.2.1 q hq), h.2.2.2.2.2.2.1.warm hW, fun i j hi hj hij => (h.2.2.2.2.2.2.2 i j hi hj hij).moved hW.alike⟩
theorem gZ.same {ad : Nat → Nat} {A : Nat → Prop} {u U : State} {H : Heap} (hv : U.vm = u.vm) (h : gZ ad A u H) : gZ ad A U H :=
  have hA : u.vm.Alike U.vm := by rw [hv]; exact Vm.Alike.refl _
  ⟨h.1.moved hA, h.2.1.moved hA, h.2.2.1.moved hA, h.2.2.2.1.moved hA, fun i hi => ⟨(h.2.2.2.2.1 i hi).1.moved hA, (h.2.2.2.2.1 i hi).2.1.moved hA, (h.2.2.2.2.1 i hi).2.2.1.moved hA, (h.2.2.2.2.1 i hi).2.2.2.moved hA⟩, fun q hq => vk_R.same hv (h.2.2.2.2.2.1 q hq), h.2.2.2.2.2.2.1.same hv.symm, fun i j hi hj hij => (h.2.2.2.2.2.2.2 i j hi hj hij).moved hA⟩
theorem gZ.kept {ad : Nat → Nat} {A : Nat → Prop} {U : State} {H H1 : Heap} (h : gZ ad A U H) (hq : ∀ a : Nat, a < H.size → ¬ A a → H1[a]? = H[a]?) : gZ ad A U H1 :=
  ⟨h.1.kept hq, h.2.1.kept hq, h.2.2.1.kept hq, h.2.2.2.1.kept hq, fun i hi => ⟨(h.2.2.2.2.1 i hi).1.kept hq, (h.2.2.2.2.1 i hi).2.1.kept hq, (h.2.2.2.2.1 i hi).2.2.1.kept hq, (h.2.2.2.2.1 i hi).2.2.2.kept hq⟩, h.2.2.2.2.2⟩
/-- what a method has of the world at its start and end -/
def gB (D : va_G) (cy : Nat → ClassId) (ad : Nat → Nat) (A : Nat → Prop) (σ : gS) (U : State) : Prop := va_P D vwCl (gW cy ad σ) U.heap ∧ va_K D vwCl (gT cy) U ∧ va_D A (gW cy ad σ) ∧ (∀ q, U.heap.size ≤ q → A q) ∧ gZ ad A U U.heap
theorem gB.calling {D : va_G} {cy : Nat → ClassId} {ad : Nat → Nat} {A : Nat → Prop} {σ : gS} {U : State} (g : JFrame) (mk : MethodId) (a : Array Value) (h : gB D cy ad A σ U) : gB D cy ad A σ (U.calling g mk a) :=
  ⟨h.1, va_K.moved (u := U) (U := U.calling g mk a) (Vm.Alike.refl U.vm) h.2.1, h.2.2.1, h.2.2.2.1, gZ.same (u := U) (U := U.calling g mk a) rfl h.2.2.2.2⟩
theorem gPc_blind {D : va_G} {cy : Nat → ClassId} {ad : Nat → Nat} {A : Nat → Prop} {σ : gS} {av : List Value} : FrameBlind (va_Pc av (gB D cy ad A σ)) := fun a _ g mk q => ⟨q.1, q.2.calling g mk a⟩
/-- what stands through a method's body -/
def gC (p : Program) (c : Code) (cc : ByteArray) (s : State) (m : MethodId) (args : Array Value) (own : String) (D : va_G) (cy : Nat → ClassId) (ad : Nat → Nat) (A : Nat → Prop) : Prop := p.tables.exec = Jvm.exec ∧ c.code = cc ∧ (∀ w ∈ gG, w.before args s = true) ∧ s.vm.findClass own = some m.cls ∧ va_K D vwCl (gT cy) s ∧ (∀ q, s.heap.size ≤ q → A q) ∧ gZ ad A s s.heap
/-- the world now -/
def gI (D : va_G) (cy : Nat → ClassId) (ad : Nat → Nat) (A : Nat → Prop) (H0 : Heap) (σ : gS) (H : Heap) (locs : List Loc) : Prop := va_P D vwCl (gW cy ad σ) H ∧ va_D A (gW cy ad σ) ∧ va_S A H0 H locs
theorem gI.toB {D : va_G} {cy : Nat → ClassId} {ad : Nat → Nat} {A : Nat → Prop} {p : Program} {c : Code} {cc : ByteArray} {s t : State} {m : MethodId} {args : Array Value} {own : String} {σ : gS} {H : Heap} {locs : List Loc} (h : gI D cy ad A s.heap σ H locs) (hC : gC p c cc s m args own D cy ad A) (ht : t.heap = H) (hv : s.WarmedH t.vm) : gB D cy ad A σ t :=
  ⟨by rw [ht]; exact h.1, va_K.moved hv.alike hC.2.2.2.2.1, h.2.1, fun q hq => hC.2.2.2.2.2.1 q (Nat.le_trans h.2.2.1 (by rw [← ht]; exact hq)), gZ.moved hv (by rw [ht]; exact gZ.kept hC.2.2.2.2.2.2 h.2.2.2.1)⟩
section GROWS
variable {p : Program} {l : Launch} {e : Env} {R : Room} {s : State} {m : MethodId} {args : Array Value} {below : List Frame} {meth : Method} {c : Code} {H : Heap} {locs : List Loc} {cells slots : Nat} {Q : State → Prop} {cc : ByteArray} {pc : Nat} {ls : Array Slot} {rest : List Value} {D : va_G} {cy : Nat → ClassId} {ad : Nat → Nat} {A : Nat → Prop} {σ : gS} {own : String} {index : Nat}
theorem gg_X8_tape (hC : gC p c cc s m args own D cy ad A) (hI : gI D cy ad A s.heap σ H locs) (hL : (Cond.fieldLink own index "FestivalFields" "tape" "LFestivalFields$Tape;") ∈ gG) (hdg : decode cc pc = .ok (.getfield index, 3)) (kk : W p l e R s m args below meth c H locs cells slots Q (F0 m (pc + 3) ls (.ref (ad 1) :: rest))) : W p l e R s m args below meth c H locs cells slots Q (F0 m pc ls (.ref (ad 0) :: rest)) := 
  va_get (D := D) (ci := 8) (v := .ref (ad 1)) (C := RX8) (T := TX8) (N := 11) hC.1 hC.2.1 hC.2.2.1 gin_X8 hC.2.2.2.1 hC.2.2.2.2.1 hI.1 0 rfl rfl 0 (by decide) (hC.2.2.1 _ hL) (fun _ h9 => h9) rfl hdg kk
theorem gg_X8_reader (hC : gC p c cc s m args own D cy ad A) (hI : gI D cy ad A s.heap σ H locs) (hL : (Cond.fieldLink own index "FestivalFields" "reader" "LFestivalFields$Reader;") ∈ gG) (hdg : decode cc pc = .ok (.getfield index, 3)) (kk : W p l e R s m args below meth c H locs cells slots Q (F0 m (pc + 3) ls (.ref (ad 2) :: rest))) : W p l e R s m args below meth c H locs cells slots Q (F0 m pc ls (.ref (ad 0) :: rest)) := 
  va_get (D := D) (ci := 8) (v := .ref (ad 2)) (C := RX8) (T := TX8) (N := 11) hC.1 hC.2.1 hC.2.2.1 gin_X8 hC.2.2.2.1 hC.2.2.2.2.1 hI.1 0 rfl rfl 1 (by decide) (hC.2.2.1 _ hL) (fun _ h9 => h9) rfl hdg kk
theorem gg_X8_meadow (hC : gC p c cc s m args own D cy ad A) (hI : gI D cy ad A s.heap σ H locs) (hL : (Cond.fieldLink own index "FestivalFields" "meadow" "LFestivalFields$Meadow;") ∈ gG) (hdg : decode cc pc = .ok (.getfield index, 3)) (kk : W p l e R s m args below meth c H locs cells slots Q (F0 m (pc + 3) ls (.ref (ad 3) :: rest))) : W p l e R s m args below meth c H locs cells slots Q (F0 m pc ls (.ref (ad 0) :: rest)) := 
  va_get (D := D) (ci := 8) (v := .ref (ad 3)) (C := RX8) (T := TX8) (N := 11) hC.1 hC.2.1 hC.2.2.1 gin_X8 hC.2.2.2.1 hC.2.2.2.2.1 hI.1 0 rfl rfl 2 (by decide) (hC.2.2.1 _ hL) (fun _ h9 => h9) rfl hdg kk
theorem gg_X8_ground (hC : gC p c cc s m args own D cy ad A) (hI : gI D cy ad A s.heap σ H locs) (hL : (Cond.fieldLink own index "FestivalFields" "ground" "LFestivalFields$Ground;") ∈ gG) (hdg : decode cc pc = .ok (.getfield index, 3)) (kk : W p l e R s m args below meth c H locs cells slots Q (F0 m (pc + 3) ls (.ref (ad 4) :: rest))) : W p l e R s m args below meth c H locs cells slots Q (F0 m pc ls (.ref (ad 0) :: rest)) := 
  va_get (D := D) (ci := 8) (v := .ref (ad 4)) (C := RX8) (T := TX8) (N := 11) hC.1 hC.2.1 hC.2.2.1 gin_X8 hC.2.2.2.1 hC.2.2.2.2.1 hI.1 0 rfl rfl 3 (by decide) (hC.2.2.1 _ hL) (fun _ h9 => h9) rfl hdg kk
theorem gg_X8_programme (hC : gC p c cc s m args own D cy ad A) (hI : gI D cy ad A s.heap σ H locs) (hL : (Cond.fieldLink own index "FestivalFields" "programme" "LFestivalFields$Programme;") ∈ gG) (hdg : decode cc pc = .ok (.getfield index, 3)) (kk : W p l e R s m args below meth c H locs cells slots Q (F0 m (pc + 3) ls (.ref (ad 6) :: rest))) : W p l e R s m args below meth c H locs cells slots Q (F0 m pc ls (.ref (ad 0) :: rest)) := 
  va_get (D := D) (ci := 8) (v := .ref (ad 6)) (C := RX8) (T := TX8) (N := 11) hC.1 hC.2.1 hC.2.2.1 gin_X8 hC.2.2.2.1 hC.2.2.2.2.1 hI.1 0 rfl rfl 4 (by decide) (hC.2.2.1 _ hL) (fun _ h9 => h9) rfl hdg kk
theorem gg_X8_book (hC : gC p c cc s m args own D cy ad A) (hI : gI D cy ad A s.heap σ H locs) (hL : (Cond.fieldLink own index "FestivalFields" "book" "LFestivalFields$GateBook;") ∈ gG) (hdg : decode cc pc = .ok (.getfield index, 3)) (kk : W p l e R s m args below meth c H locs cells slots Q (F0 m (pc + 3) ls (.ref (ad 7) :: rest))) : W p l e R s m args below meth c H locs cells slots Q (F0 m pc ls (.ref (ad 0) :: rest)) := 
  va_get (D := D) (ci := 8) (v := .ref (ad 7)) (C := RX8) (T := TX8) (N := 11) hC.1 hC.2.1 hC.2.2.1 gin_X8 hC.2.2.2.1 hC.2.2.2.2.1 hI.1 0 rfl rfl 5 (by decide) (hC.2.2.1 _ hL) (fun _ h9 => h9) rfl hdg kk
theorem gg_X8_loudness (hC : gC p c cc s m args own D cy ad A) (hI : gI D cy ad A s.heap σ H locs) (hL : (Cond.fieldLink own index "FestivalFields" "loudness" "[I") ∈ gG) (hdg : decode cc pc = .ok (.getfield index, 3)) (kk : W p l e R s m args below meth c H locs cells slots Q (F0 m (pc + 3) ls (.ref (ad 19) :: rest))) : W p l e R s m args below meth c H locs cells slots Q (F0 m pc ls (.ref (ad 0) :: rest)) := 
  va_get (D := D) (ci := 8) (v := .ref (ad 19)) (C := RX8) (T := TX8) (N := 11) hC.1 hC.2.1 hC.2.2.1 gin_X8 hC.2.2.2.1 hC.2.2.2.2.1 hI.1 0 rfl rfl 6 (by decide) (hC.2.2.1 _ hL) (fun _ h9 => h9) rfl hdg kk
theorem gg_X8_terms (hC : gC p c cc s m args own D cy ad A) (hI : gI D cy ad A s.heap σ H locs) (hL : (Cond.fieldLink own index "FestivalFields" "terms" "LFestivalFields$Terms;") ∈ gG) (hdg : decode cc pc = .ok (.getfield index, 3)) (kk : W p l e R s m args below meth c H locs cells slots Q (F0 m (pc + 3) ls (.ref (ad (gtj (σ 11 0))) :: rest))) : W p l e R s m args below meth c H locs cells slots Q (F0 m pc ls (.ref (ad 0) :: rest)) := 
  va_get (D := D) (ci := 8) (v := .ref (ad (gtj (σ 11 0)))) (C := RX8) (T := TX8) (N := 11) hC.1 hC.2.1 hC.2.2.1 gin_X8 hC.2.2.2.1 hC.2.2.2.2.1 hI.1 0 rfl rfl 7 (by decide) (hC.2.2.1 _ hL) (fun _ h9 => h9) rfl hdg kk
theorem gp_X8_terms (hC : gC p c cc s m args own D cy ad A) (hI : gI D cy ad A s.heap σ H locs) {j : Nat} (hj : j = 8 ∨ j = 9) (hL : (Cond.fieldLink own index "FestivalFields" "terms" "LFestivalFields$Terms;") ∈ gG) (hdg : decode cc pc = .ok (.putfield index, 3)) (kk : ∀ (σ1 : gS) (H1 : Heap) (locs1 : List Loc), σ1 = gu σ 11 0 (gtv j) → gI D cy ad A s.heap σ1 H1 locs1 → W p l e R s m args below meth c H1 locs1 cells slots Q (F0 m (pc + 3) ls rest)) : W p l e R s m args below meth c H locs cells slots Q (F0 m pc ls (.ref (ad j) :: .ref (ad 0) :: rest)) := by
  rcases hj with rfl | rfl <;> exact va_put (D := D) (ci := 8) (v := .ref (ad _)) (ty := .object "FestivalFields$Terms") (C := RX8) (T := TX8) (N := 11) hC.1 hC.2.1 hC.2.2.1 gin_X8 tyX8 tyX8_ok nmX8 hC.2.2.2.1 hC.2.2.2.2.1 hI.1 hI.2.1 hI.2.2 0 rfl rfl 7 (by decide) (hC.2.2.1 _ hL) (fun _ h9 => h9) rfl (by decide +kernel) rfl rfl (Nat.le_of_ble_eq_true rfl) hdg (fun H1 locs1 hP hD hS => kk _ H1 locs1 rfl ⟨hP, hD, hS⟩)
theorem gg_X8_spareTerms (hC : gC p c cc s m args own D cy ad A) (hI : gI D cy ad A s.heap σ H locs) (hL : (Cond.fieldLink own index "FestivalFields" "spareTerms" "LFestivalFields$Terms;") ∈ gG) (hdg : decode cc pc = .ok (.getfield index, 3)) (kk : W p l e R s m args below meth c H locs cells slots Q (F0 m (pc + 3) ls (.ref (ad (gtj (σ 12 0))) :: rest))) : W p l e R s m args below meth c H locs cells slots Q (F0 m pc ls (.ref (ad 0) :: rest)) := 
  va_get (D := D) (ci := 8) (v := .ref (ad (gtj (σ 12 0)))) (C := RX8) (T := TX8) (N := 11) hC.1 hC.2.1 hC.2.2.1 gin_X8 hC.2.2.2.1 hC.2.2.2.2.1 hI.1 0 rfl rfl 8 (by decide) (hC.2.2.1 _ hL) (fun _ h9 => h9) rfl hdg kk
theorem gp_X8_spareTerms (hC : gC p c cc s m args own D cy ad A) (hI : gI D cy ad A s.heap σ H locs) {j : Nat} (hj : j = 8 ∨ j = 9) (hL : (Cond.fieldLink own index "FestivalFields" "spareTerms" "LFestivalFields$Terms;") ∈ gG) (hdg : decode cc pc = .ok (.putfield index, 3)) (kk : ∀ (σ1 : gS) (H1 : Heap) (locs1 : List Loc), σ1 = gu σ 12 0 (gtv j) → gI D cy ad A s.heap σ1 H1 locs1 → W p l e R s m args below meth c H1 locs1 cells slots Q (F0 m (pc + 3) ls rest)) : W p l e R s m args below meth c H locs cells slots Q (F0 m pc ls (.ref (ad j) :: .ref (ad 0) :: rest)) := by
  rcases hj with rfl | rfl <;> exact va_put (D := D) (ci := 8) (v := .ref (ad _)) (ty := .object "FestivalFields$Terms") (C := RX8) (T := TX8) (N := 11) hC.1 hC.2.1 hC.2.2.1 gin_X8 tyX8 tyX8_ok nmX8 hC.2.2.2.1 hC.2.2.2.2.1 hI.1 hI.2.1 hI.2.2 0 rfl rfl 8 (by decide) (hC.2.2.1 _ hL) (fun _ h9 => h9) rfl (by decide +kernel) rfl rfl (Nat.le_of_ble_eq_true rfl) hdg (fun H1 locs1 hP hD hS => kk _ H1 locs1 rfl ⟨hP, hD, hS⟩)
theorem gg_X8_now (hC : gC p c cc s m args own D cy ad A) (hI : gI D cy ad A s.heap σ H locs) (hL : (Cond.fieldLink own index "FestivalFields" "now" "I") ∈ gG) (hdg : decode cc pc = .ok (.getfield index, 3)) (kk : W p l e R s m args below meth c H locs cells slots Q (F0 m (pc + 3) ls (.int (σ 13 0) :: rest))) : W p l e R s m args below meth c H locs cells slots Q (F0 m pc ls (.ref (ad 0) :: rest)) := 
  va_get (D := D) (ci := 8) (v := .int (σ 13 0)) (C := RX8) (T := TX8) (N := 11) hC.1 hC.2.1 hC.2.2.1 gin_X8 hC.2.2.2.1 hC.2.2.2.2.1 hI.1 0 rfl rfl 9 (by decide) (hC.2.2.1 _ hL) (fun _ h9 => h9) rfl hdg kk
theorem gp_X8_now (hC : gC p c cc s m args own D cy ad A) (hI : gI D cy ad A s.heap σ H locs) {v : Int32} (hL : (Cond.fieldLink own index "FestivalFields" "now" "I") ∈ gG) (hdg : decode cc pc = .ok (.putfield index, 3)) (kk : ∀ (σ1 : gS) (H1 : Heap) (locs1 : List Loc), σ1 = gu σ 13 0 v → gI D cy ad A s.heap σ1 H1 locs1 → W p l e R s m args below meth c H1 locs1 cells slots Q (F0 m (pc + 3) ls rest)) : W p l e R s m args below meth c H locs cells slots Q (F0 m pc ls (.int v :: .ref (ad 0) :: rest)) := 
  va_put (D := D) (ci := 8) (v := .int v) (ty := .int) (C := RX8) (T := TX8) (N := 11) hC.1 hC.2.1 hC.2.2.1 gin_X8 tyX8 tyX8_ok nmX8 hC.2.2.2.1 hC.2.2.2.2.1 hI.1 hI.2.1 hI.2.2 0 rfl rfl 9 (by decide) (hC.2.2.1 _ hL) (fun _ h9 => h9) rfl (by decide +kernel) rfl rfl (Nat.le_of_ble_eq_true rfl) hdg (fun H1 locs1 hP hD hS => kk _ H1 locs1 rfl ⟨hP, hD, hS⟩)
theorem gg_X8_wrongByte (hC : gC p c cc s m args own D cy ad A) (hI : gI D cy ad A s.heap σ H locs) (hL : (Cond.fieldLink own index "FestivalFields" "wrongByte" "I") ∈ gG) (hdg : decode cc pc = .ok (.getfield index, 3)) (kk : W p l e R s m args below meth c H locs cells slots Q (F0 m (pc + 3) ls (.int (σ 14 0) :: rest))) : W p l e R s m args below meth c H locs cells slots Q (F0 m pc ls (.ref (ad 0) :: rest)) := 
  va_get (D := D) (ci := 8) (v := .int (σ 14 0)) (C := RX8) (T := TX8) (N := 11) hC.1 hC.2.1 hC.2.2.1 gin_X8 hC.2.2.2.1 hC.2.2.2.2.1 hI.1 0 rfl rfl 10 (by decide) (hC.2.2.1 _ hL) (fun _ h9 => h9) rfl hdg kk
theorem gp_X8_wrongByte (hC : gC p c cc s m args own D cy ad A) (hI : gI D cy ad A s.heap σ H locs) {v : Int32} (hL : (Cond.fieldLink own index "FestivalFields" "wrongByte" "I") ∈ gG) (hdg : decode cc pc = .ok (.putfield index, 3)) (kk : ∀ (σ1 : gS) (H1 : Heap) (locs1 : List Loc), σ1 = gu σ 14 0 v → gI D cy ad A s.heap σ1 H1 locs1 → W p l e R s m args below meth c H1 locs1 cells slots Q (F0 m (pc + 3) ls rest)) : W p l e R s m args below meth c H locs cells slots Q (F0 m pc ls (.int v :: .ref (ad 0) :: rest)) := 
  va_put (D := D) (ci := 8) (v := .int v) (ty := .int) (C := RX8) (T := TX8) (N := 11) hC.1 hC.2.1 hC.2.2.1 gin_X8 tyX8 tyX8_ok nmX8 hC.2.2.2.1 hC.2.2.2.2.1 hI.1 hI.2.1 hI.2.2 0 rfl rfl 10 (by decide) (hC.2.2.1 _ hL) (fun _ h9 => h9) rfl (by decide +kernel) rfl rfl (Nat.le_of_ble_eq_true rfl) hdg (fun H1 locs1 hP hD hS => kk _ H1 locs1 rfl ⟨hP, hD, hS⟩)
theorem gg_X6_bytes (hC : gC p c cc s m args own D cy ad A) (hI : gI D cy ad A s.heap σ H locs) (hL : (Cond.fieldLink own index "FestivalFields$Tape" "bytes" "[I") ∈ gG) (hdg : decode cc pc = .ok (.getfield index, 3)) (kk : W p l e R s m args below meth c H locs cells slots Q (F0 m (pc + 3) ls (.ref (ad 20) :: rest))) : W p l e R s m args below meth c H locs cells slots Q (F0 m pc ls (.ref (ad 1) :: rest)) := 
  va_get (D := D) (ci := 6) (v := .ref (ad 20)) (C := RX6) (T := TX6) (N := 2) hC.1 hC.2.1 hC.2.2.1 gin_X6 hC.2.2.2.1 hC.2.2.2.2.1 hI.1 1 rfl rfl 0 (by decide) (hC.2.2.1 _ hL) (fun _ h9 => h9) rfl hdg kk
theorem gg_X6_size (hC : gC p c cc s m args own D cy ad A) (hI : gI D cy ad A s.heap σ H locs) (hL : (Cond.fieldLink own index "FestivalFields$Tape" "size" "I") ∈ gG) (hdg : decode cc pc = .ok (.getfield index, 3)) (kk : W p l e R s m args below meth c H locs cells slots Q (F0 m (pc + 3) ls (.int (σ 16 0) :: rest))) : W p l e R s m args below meth c H locs cells slots Q (F0 m pc ls (.ref (ad 1) :: rest)) := 
  va_get (D := D) (ci := 6) (v := .int (σ 16 0)) (C := RX6) (T := TX6) (N := 2) hC.1 hC.2.1 hC.2.2.1 gin_X6 hC.2.2.2.1 hC.2.2.2.2.1 hI.1 1 rfl rfl 1 (by decide) (hC.2.2.1 _ hL) (fun _ h9 => h9) rfl hdg kk
theorem gp_X6_size (hC : gC p c cc s m args own D cy ad A) (hI : gI D cy ad A s.heap σ H locs) {v : Int32} (hL : (Cond.fieldLink own index "FestivalFields$Tape" "size" "I") ∈ gG) (hdg : decode cc pc = .ok (.putfield index, 3)) (kk : ∀ (σ1 : gS) (H1 : Heap) (locs1 : List Loc), σ1 = gu σ 16 0 v → gI D cy ad A s.heap σ1 H1 locs1 → W p l e R s m args below meth c H1 locs1 cells slots Q (F0 m (pc + 3) ls rest)) : W p l e R s m args below meth c H locs cells slots Q (F0 m pc ls (.int v :: .ref (ad 1) :: rest)) := 
  va_put (D := D) (ci := 6) (v := .int v) (ty := .int) (C := RX6) (T := TX6) (N := 2) hC.1 hC.2.1 hC.2.2.1 gin_X6 tyX6 tyX6_ok nmX6 hC.2.2.2.1 hC.2.2.2.2.1 hI.1 hI.2.1 hI.2.2 1 rfl rfl 1 (by decide) (hC.2.2.1 _ hL) (fun _ h9 => h9) rfl (by decide +kernel) rfl rfl (Nat.le_of_ble_eq_true rfl) hdg (fun H1 locs1 hP hD hS => kk _ H1 locs1 rfl ⟨hP, hD, hS⟩)
theorem gg_X5_tape (hC : gC p c cc s m args own D cy ad A) (hI : gI D cy ad A s.heap σ H locs) (hL : (Cond.fieldLink own index "FestivalFields$Reader" "tape" "LFestivalFields$Tape;") ∈ gG) (hdg : decode cc pc = .ok (.getfield index, 3)) (kk : W p l e R s m args below meth c H locs cells slots Q (F0 m (pc + 3) ls (.ref (ad 1) :: rest))) : W p l e R s m args below meth c H locs cells slots Q (F0 m pc ls (.ref (ad 2) :: rest)) := 
  va_get (D := D) (ci := 5) (v := .ref (ad 1)) (C := RX5) (T := TX5) (N := 3) hC.1 hC.2.1 hC.2.2.1 gin_X5 hC.2.2.2.1 hC.2.2.2.2.1 hI.1 2 rfl rfl 0 (by decide) (hC.2.2.1 _ hL) (fun _ h9 => h9) rfl hdg kk
theorem gg_X5_next (hC : gC p c cc s m args own D cy ad A) (hI : gI D cy ad A s.heap σ H locs) (hL : (Cond.fieldLink own index "FestivalFields$Reader" "next" "I") ∈ gG) (hdg : decode cc pc = .ok (.getfield index, 3)) (kk : W p l e R s m args below meth c H locs cells slots Q (F0 m (pc + 3) ls (.int (σ 17 0) :: rest))) : W p l e R s m args below meth c H locs cells slots Q (F0 m pc ls (.ref (ad 2) :: rest)) := 
  va_get (D := D) (ci := 5) (v := .int (σ 17 0)) (C := RX5) (T := TX5) (N := 3) hC.1 hC.2.1 hC.2.2.1 gin_X5 hC.2.2.2.1 hC.2.2.2.2.1 hI.1 2 rfl rfl 1 (by decide) (hC.2.2.1 _ hL) (fun _ h9 => h9) rfl hdg kk
theorem gp_X5_next (hC : gC p c cc s m args own D cy ad A) (hI : gI D cy ad A s.heap σ H locs) {v : Int32} (hL : (Cond.fieldLink own index "FestivalFields$Reader" "next" "I") ∈ gG) (hdg : decode cc pc = .ok (.putfield index, 3)) (kk : ∀ (σ1 : gS) (H1 : Heap) (locs1 : List Loc), σ1 = gu σ 17 0 v → gI D cy ad A s.heap σ1 H1 locs1 → W p l e R s m args below meth c H1 locs1 cells slots Q (F0 m (pc + 3) ls rest)) : W p l e R s m args below meth c H locs cells slots Q (F0 m pc ls (.int v :: .ref (ad 2) :: rest)) := 
  va_put (D := D) (ci := 5) (v := .int v) (ty := .int) (C := RX5) (T := TX5) (N := 3) hC.1 hC.2.1 hC.2.2.1 gin_X5 tyX5 tyX5_ok nmX5 hC.2.2.2.1 hC.2.2.2.2.1 hI.1 hI.2.1 hI.2.2 2 rfl rfl 1 (by decide) (hC.2.2.1 _ hL) (fun _ h9 => h9) rfl (by decide +kernel) rfl rfl (Nat.le_of_ble_eq_true rfl) hdg (fun H1 locs1 hP hD hS => kk _ H1 locs1 rfl ⟨hP, hD, hS⟩)
theorem gg_X5_wrong (hC : gC p c cc s m args own D cy ad A) (hI : gI D cy ad A s.heap σ H locs) (hL : (Cond.fieldLink own index "FestivalFields$Reader" "wrong" "I") ∈ gG) (hdg : decode cc pc = .ok (.getfield index, 3)) (kk : W p l e R s m args below meth c H locs cells slots Q (F0 m (pc + 3) ls (.int (σ 18 0) :: rest))) : W p l e R s m args below meth c H locs cells slots Q (F0 m pc ls (.ref (ad 2) :: rest)) := 
  va_get (D := D) (ci := 5) (v := .int (σ 18 0)) (C := RX5) (T := TX5) (N := 3) hC.1 hC.2.1 hC.2.2.1 gin_X5 hC.2.2.2.1 hC.2.2.2.2.1 hI.1 2 rfl rfl 2 (by decide) (hC.2.2.1 _ hL) (fun _ h9 => h9) rfl hdg kk
theorem gp_X5_wrong (hC : gC p c cc s m args own D cy ad A) (hI : gI D cy ad A s.heap σ H locs) {v : Int32} (hL : (Cond.fieldLink own index "FestivalFields$Reader" "wrong" "I") ∈ gG) (hdg : decode cc pc = .ok (.putfield index, 3)) (kk : ∀ (σ1 : gS) (H1 : Heap) (locs1 : List Loc), σ1 = gu σ 18 0 v → gI D cy ad A s.heap σ1 H1 locs1 → W p l e R s m args below meth c H1 locs1 cells slots Q (F0 m (pc + 3) ls rest)) : W p l e R s m args below meth c H locs cells slots Q (F0 m pc ls (.int v :: .ref (ad 2) :: rest)) := 
  va_put (D := D) (ci := 5) (v := .int v) (ty := .int) (C := RX5) (T := TX5) (N := 3) hC.1 hC.2.1 hC.2.2.1 gin_X5 tyX5 tyX5_ok nmX5 hC.2.2.2.1 hC.2.2.2.2.1 hI.1 hI.2.1 hI.2.2 2 rfl rfl 2 (by decide) (hC.2.2.1 _ hL) (fun _ h9 => h9) rfl (by decide +kernel) rfl rfl (Nat.le_of_ble_eq_true rfl) hdg (fun H1 locs1 hP hD hS => kk _ H1 locs1 rfl ⟨hP, hD, hS⟩)
theorem gg_X3_squares (hC : gC p c cc s m args own D cy ad A) (hI : gI D cy ad A s.heap σ H locs) (hL : (Cond.fieldLink own index "FestivalFields$Meadow" "squares" "[I") ∈ gG) (hdg : decode cc pc = .ok (.getfield index, 3)) (kk : W p l e R s m args below meth c H locs cells slots Q (F0 m (pc + 3) ls (.ref (ad 21) :: rest))) : W p l e R s m args below meth c H locs cells slots Q (F0 m pc ls (.ref (ad 3) :: rest)) := 
  va_get (D := D) (ci := 3) (v := .ref (ad 21)) (C := RX3) (T := TX3) (N := 4) hC.1 hC.2.1 hC.2.2.1 gin_X3 hC.2.2.2.1 hC.2.2.2.2.1 hI.1 3 rfl rfl 0 (by decide) (hC.2.2.1 _ hL) (fun _ h9 => h9) rfl hdg kk
theorem gg_X3_gateSquare (hC : gC p c cc s m args own D cy ad A) (hI : gI D cy ad A s.heap σ H locs) (hL : (Cond.fieldLink own index "FestivalFields$Meadow" "gateSquare" "I") ∈ gG) (hdg : decode cc pc = .ok (.getfield index, 3)) (kk : W p l e R s m args below meth c H locs cells slots Q (F0 m (pc + 3) ls (.int (σ 20 0) :: rest))) : W p l e R s m args below meth c H locs cells slots Q (F0 m pc ls (.ref (ad 3) :: rest)) := 
  va_get (D := D) (ci := 3) (v := .int (σ 20 0)) (C := RX3) (T := TX3) (N := 4) hC.1 hC.2.1 hC.2.2.1 gin_X3 hC.2.2.2.1 hC.2.2.2.2.1 hI.1 3 rfl rfl 1 (by decide) (hC.2.2.1 _ hL) (fun _ h9 => h9) rfl hdg kk
theorem gp_X3_gateSquare (hC : gC p c cc s m args own D cy ad A) (hI : gI D cy ad A s.heap σ H locs) {v : Int32} (hL : (Cond.fieldLink own index "FestivalFields$Meadow" "gateSquare" "I") ∈ gG) (hdg : decode cc pc = .ok (.putfield index, 3)) (kk : ∀ (σ1 : gS) (H1 : Heap) (locs1 : List Loc), σ1 = gu σ 20 0 v → gI D cy ad A s.heap σ1 H1 locs1 → W p l e R s m args below meth c H1 locs1 cells slots Q (F0 m (pc + 3) ls rest)) : W p l e R s m args below meth c H locs cells slots Q (F0 m pc ls (.int v :: .ref (ad 3) :: rest)) := 
  va_put (D := D) (ci := 3) (v := .int v) (ty := .int) (C := RX3) (T := TX3) (N := 4) hC.1 hC.2.1 hC.2.2.1 gin_X3 tyX3 tyX3_ok nmX3 hC.2.2.2.1 hC.2.2.2.2.1 hI.1 hI.2.1 hI.2.2 3 rfl rfl 1 (by decide) (hC.2.2.1 _ hL) (fun _ h9 => h9) rfl (by decide +kernel) rfl rfl (Nat.le_of_ble_eq_true rfl) hdg (fun H1 locs1 hP hD hS => kk _ H1 locs1 rfl ⟨hP, hD, hS⟩)
theorem gg_X3_tents (hC : gC p c cc s m args own D cy ad A) (hI : gI D cy ad A s.heap σ H locs) (hL : (Cond.fieldLink own index "FestivalFields$Meadow" "tents" "I") ∈ gG) (hdg : decode cc pc = .ok (.getfield index, 3)) (kk : W p l e R s m args below meth c H locs cells slots Q (F0 m (pc + 3) ls (.int (σ 21 0) :: rest))) : W p l e R s m args below meth c H locs cells slots Q (F0 m pc ls (.ref (ad 3) :: rest)) := 
  va_get (D := D) (ci := 3) (v := .int (σ 21 0)) (C := RX3) (T := TX3) (N := 4) hC.1 hC.2.1 hC.2.2.1 gin_X3 hC.2.2.2.1 hC.2.2.2.2.1 hI.1 3 rfl rfl 2 (by decide) (hC.2.2.1 _ hL) (fun _ h9 => h9) rfl hdg kk
theorem gp_X3_tents (hC : gC p c cc s m args own D cy ad A) (hI : gI D cy ad A s.heap σ H locs) {v : Int32} (hL : (Cond.fieldLink own index "FestivalFields$Meadow" "tents" "I") ∈ gG) (hdg : decode cc pc = .ok (.putfield index, 3)) (kk : ∀ (σ1 : gS) (H1 : Heap) (locs1 : List Loc), σ1 = gu σ 21 0 v → gI D cy ad A s.heap σ1 H1 locs1 → W p l e R s m args below meth c H1 locs1 cells slots Q (F0 m (pc + 3) ls rest)) : W p l e R s m args below meth c H locs cells slots Q (F0 m pc ls (.int v :: .ref (ad 3) :: rest)) := 
  va_put (D := D) (ci := 3) (v := .int v) (ty := .int) (C := RX3) (T := TX3) (N := 4) hC.1 hC.2.1 hC.2.2.1 gin_X3 tyX3 tyX3_ok nmX3 hC.2.2.2.1 hC.2.2.2.2.1 hI.1 hI.2.1 hI.2.2 3 rfl rfl 2 (by decide) (hC.2.2.1 _ hL) (fun _ h9 => h9) rfl (by decide +kernel) rfl rfl (Nat.le_of_ble_eq_true rfl) hdg (fun H1 locs1 hP hD hS => kk _ H1 locs1 rfl ⟨hP, hD, hS⟩)
theorem gg_X3_standing (hC : gC p c cc s m args own D cy ad A) (hI : gI D cy ad A s.heap σ H locs) (hL : (Cond.fieldLink own index "FestivalFields$Meadow" "standing" "I") ∈ gG) (hdg : decode cc pc = .ok (.getfield index, 3)) (kk : W p l e R s m args below meth c H locs cells slots Q (F0 m (pc + 3) ls (.int (σ 22 0) :: rest))) : W p l e R s m args below meth c H locs cells slots Q (F0 m pc ls (.ref (ad 3) :: rest)) := 
  va_get (D := D) (ci := 3) (v := .int (σ 22 0)) (C := RX3) (T := TX3) (N := 4) hC.1 hC.2.1 hC.2.2.1 gin_X3 hC.2.2.2.1 hC.2.2.2.2.1 hI.1 3 rfl rfl 3 (by decide) (hC.2.2.1 _ hL) (fun _ h9 => h9) rfl hdg kk
theorem gp_X3_standing (hC : gC p c cc s m args own D cy ad A) (hI : gI D cy ad A s.heap σ H locs) {v : Int32} (hL : (Cond.fieldLink own index "FestivalFields$Meadow" "standing" "I") ∈ gG) (hdg : decode cc pc = .ok (.putfield index, 3)) (kk : ∀ (σ1 : gS) (H1 : Heap) (locs1 : List Loc), σ1 = gu σ 22 0 v → gI D cy ad A s.heap σ1 H1 locs1 → W p l e R s m args below meth c H1 locs1 cells slots Q (F0 m (pc + 3) ls rest)) : W p l e R s m args below meth c H locs cells slots Q (F0 m pc ls (.int v :: .ref (ad 3) :: rest)) := 
  va_put (D := D) (ci := 3) (v := .int v) (ty := .int) (C := RX3) (T := TX3) (N := 4) hC.1 hC.2.1 hC.2.2.1 gin_X3 tyX3 tyX3_ok nmX3 hC.2.2.2.1 hC.2.2.2.2.1 hI.1 hI.2.1 hI.2.2 3 rfl rfl 3 (by decide) (hC.2.2.1 _ hL) (fun _ h9 => h9) rfl (by decide +kernel) rfl rfl (Nat.le_of_ble_eq_true rfl) hdg (fun H1 locs1 hP hD hS => kk _ H1 locs1 rfl ⟨hP, hD, hS⟩)
theorem gg_X2_crowds (hC : gC p c cc s m args own D cy ad A) (hI : gI D cy ad A s.heap σ H locs) (hL : (Cond.fieldLink own index "FestivalFields$Ground" "crowds" "[I") ∈ gG) (hdg : decode cc pc = .ok (.getfield index, 3)) (kk : W p l e R s m args below meth c H locs cells slots Q (F0 m (pc + 3) ls (.ref (ad 22) :: rest))) : W p l e R s m args below meth c H locs cells slots Q (F0 m pc ls (.ref (ad 4) :: rest)) := 
  va_get (D := D) (ci := 2) (v := .ref (ad 22)) (C := RX2) (T := TX2) (N := 13) hC.1 hC.2.1 hC.2.2.1 gin_X2 hC.2.2.2.1 hC.2.2.2.2.1 hI.1 4 rfl rfl 0 (by decide) (hC.2.2.1 _ hL) (fun _ h9 => h9) rfl hdg kk
theorem gg_X2_rates (hC : gC p c cc s m args own D cy ad A) (hI : gI D cy ad A s.heap σ H locs) (hL : (Cond.fieldLink own index "FestivalFields$Ground" "rates" "[I") ∈ gG) (hdg : decode cc pc = .ok (.getfield index, 3)) (kk : W p l e R s m args below meth c H locs cells slots Q (F0 m (pc + 3) ls (.ref (ad 23) :: rest))) : W p l e R s m args below meth c H locs cells slots Q (F0 m pc ls (.ref (ad 4) :: rest)) := 
  va_get (D := D) (ci := 2) (v := .ref (ad 23)) (C := RX2) (T := TX2) (N := 13) hC.1 hC.2.1 hC.2.2.1 gin_X2 hC.2.2.2.1 hC.2.2.2.2.1 hI.1 4 rfl rfl 1 (by decide) (hC.2.2.1 _ hL) (fun _ h9 => h9) rfl hdg kk
theorem gg_X2_closed (hC : gC p c cc s m args own D cy ad A) (hI : gI D cy ad A s.heap σ H locs) (hL : (Cond.fieldLink own index "FestivalFields$Ground" "closed" "[Z") ∈ gG) (hdg : decode cc pc = .ok (.getfield index, 3)) (kk : W p l e R s m args below meth c H locs cells slots Q (F0 m (pc + 3) ls (.ref (ad 24) :: rest))) : W p l e R s m args below meth c H locs cells slots Q (F0 m pc ls (.ref (ad 4) :: rest)) := 
  va_get (D := D) (ci := 2) (v := .ref (ad 24)) (C := RX2) (T := TX2) (N := 13) hC.1 hC.2.1 hC.2.2.1 gin_X2 hC.2.2.2.1 hC.2.2.2.2.1 hI.1 4 rfl rfl 2 (by decide) (hC.2.2.1 _ hL) (fun _ h9 => h9) rfl hdg kk
theorem gg_X2_places (hC : gC p c cc s m args own D cy ad A) (hI : gI D cy ad A s.heap σ H locs) (hL : (Cond.fieldLink own index "FestivalFields$Ground" "places" "I") ∈ gG) (hdg : decode cc pc = .ok (.getfield index, 3)) (kk : W p l e R s m args below meth c H locs cells slots Q (F0 m (pc + 3) ls (.int (σ 26 0) :: rest))) : W p l e R s m args below meth c H locs cells slots Q (F0 m pc ls (.ref (ad 4) :: rest)) := 
  va_get (D := D) (ci := 2) (v := .int (σ 26 0)) (C := RX2) (T := TX2) (N := 13) hC.1 hC.2.1 hC.2.2.1 gin_X2 hC.2.2.2.1 hC.2.2.2.2.1 hI.1 4 rfl rfl 3 (by decide) (hC.2.2.1 _ hL) (fun _ h9 => h9) rfl hdg kk
theorem gp_X2_places (hC : gC p c cc s m args own D cy ad A) (hI : gI D cy ad A s.heap σ H locs) {v : Int32} (hL : (Cond.fieldLink own index "FestivalFields$Ground" "places" "I") ∈ gG) (hdg : decode cc pc = .ok (.putfield index, 3)) (kk : ∀ (σ1 : gS) (H1 : Heap) (locs1 : List Loc), σ1 = gu σ 26 0 v → gI D cy ad A s.heap σ1 H1 locs1 → W p l e R s m args below meth c H1 locs1 cells slots Q (F0 m (pc + 3) ls rest)) : W p l e R s m args below meth c H locs cells slots Q (F0 m pc ls (.int v :: .ref (ad 4) :: rest)) := 
  va_put (D := D) (ci := 2) (v := .int v) (ty := .int) (C := RX2) (T := TX2) (N := 13) hC.1 hC.2.1 hC.2.2.1 gin_X2 tyX2 tyX2_ok nmX2 hC.2.2.2.1 hC.2.2.2.2.1 hI.1 hI.2.1 hI.2.2 4 rfl rfl 3 (by decide) (hC.2.2.1 _ hL) (fun _ h9 => h9) rfl (by decide +kernel) rfl rfl (Nat.le_of_ble_eq_true rfl) hdg (fun H1 locs1 hP hD hS => kk _ H1 locs1 rfl ⟨hP, hD, hS⟩)
theorem gg_X2_heads (hC : gC p c cc s m args own D cy ad A) (hI : gI D cy ad A s.heap σ H locs) (hL : (Cond.fieldLink own index "FestivalFields$Ground" "heads" "[I") ∈ gG) (hdg : decode cc pc = .ok (.getfield index, 3)) (kk : W p l e R s m args below meth c H locs cells slots Q (F0 m (pc + 3) ls (.ref (ad 25) :: rest))) : W p l e R s m args below meth c H locs cells slots Q (F0 m pc ls (.ref (ad 4) :: rest)) := 
  va_get (D := D) (ci := 2) (v := .ref (ad 25)) (C := RX2) (T := TX2) (N := 13) hC.1 hC.2.1 hC.2.2.1 gin_X2 hC.2.2.2.1 hC.2.2.2.2.1 hI.1 4 rfl rfl 4 (by decide) (hC.2.2.1 _ hL) (fun _ h9 => h9) rfl hdg kk
theorem gg_X2_lengths (hC : gC p c cc s m args own D cy ad A) (hI : gI D cy ad A s.heap σ H locs) (hL : (Cond.fieldLink own index "FestivalFields$Ground" "lengths" "[I") ∈ gG) (hdg : decode cc pc = .ok (.getfield index, 3)) (kk : W p l e R s m args below meth c H locs cells slots Q (F0 m (pc + 3) ls (.ref (ad 26) :: rest))) : W p l e R s m args below meth c H locs cells slots Q (F0 m pc ls (.ref (ad 4) :: rest)) := 
  va_get (D := D) (ci := 2) (v := .ref (ad 26)) (C := RX2) (T := TX2) (N := 13) hC.1 hC.2.1 hC.2.2.1 gin_X2 hC.2.2.2.1 hC.2.2.2.2.1 hI.1 4 rfl rfl 5 (by decide) (hC.2.2.1 _ hL) (fun _ h9 => h9) rfl hdg kk
theorem gg_X2_wides (hC : gC p c cc s m args own D cy ad A) (hI : gI D cy ad A s.heap σ H locs) (hL : (Cond.fieldLink own index "FestivalFields$Ground" "wides" "[I") ∈ gG) (hdg : decode cc pc = .ok (.getfield index, 3)) (kk : W p l e R s m args below meth c H locs cells slots Q (F0 m (pc + 3) ls (.ref (ad 27) :: rest))) : W p l e R s m args below meth c H locs cells slots Q (F0 m pc ls (.ref (ad 4) :: rest)) := 
  va_get (D := D) (ci := 2) (v := .ref (ad 27)) (C := RX2) (T := TX2) (N := 13) hC.1 hC.2.1 hC.2.2.1 gin_X2 hC.2.2.2.1 hC.2.2.2.2.1 hI.1 4 rfl rfl 6 (by decide) (hC.2.2.1 _ hL) (fun _ h9 => h9) rfl hdg kk
theorem gg_X2_ways (hC : gC p c cc s m args own D cy ad A) (hI : gI D cy ad A s.heap σ H locs) (hL : (Cond.fieldLink own index "FestivalFields$Ground" "ways" "I") ∈ gG) (hdg : decode cc pc = .ok (.getfield index, 3)) (kk : W p l e R s m args below meth c H locs cells slots Q (F0 m (pc + 3) ls (.int (σ 30 0) :: rest))) : W p l e R s m args below meth c H locs cells slots Q (F0 m pc ls (.ref (ad 4) :: rest)) := 
  va_get (D := D) (ci := 2) (v := .int (σ 30 0)) (C := RX2) (T := TX2) (N := 13) hC.1 hC.2.1 hC.2.2.1 gin_X2 hC.2.2.2.1 hC.2.2.2.2.1 hI.1 4 rfl rfl 7 (by decide) (hC.2.2.1 _ hL) (fun _ h9 => h9) rfl hdg kk
theorem gp_X2_ways (hC : gC p c cc s m args own D cy ad A) (hI : gI D cy ad A s.heap σ H locs) {v : Int32} (hL : (Cond.fieldLink own index "FestivalFields$Ground" "ways" "I") ∈ gG) (hdg : decode cc pc = .ok (.putfield index, 3)) (kk : ∀ (σ1 : gS) (H1 : Heap) (locs1 : List Loc), σ1 = gu σ 30 0 v → gI D cy ad A s.heap σ1 H1 locs1 → W p l e R s m args below meth c H1 locs1 cells slots Q (F0 m (pc + 3) ls rest)) : W p l e R s m args below meth c H locs cells slots Q (F0 m pc ls (.int v :: .ref (ad 4) :: rest)) := 
  va_put (D := D) (ci := 2) (v := .int v) (ty := .int) (C := RX2) (T := TX2) (N := 13) hC.1 hC.2.1 hC.2.2.1 gin_X2 tyX2 tyX2_ok nmX2 hC.2.2.2.1 hC.2.2.2.2.1 hI.1 hI.2.1 hI.2.2 4 rfl rfl 7 (by decide) (hC.2.2.1 _ hL) (fun _ h9 => h9) rfl (by decide +kernel) rfl rfl (Nat.le_of_ble_eq_true rfl) hdg (fun H1 locs1 hP hD hS => kk _ H1 locs1 rfl ⟨hP, hD, hS⟩)
theorem gg_X2_arcsFrom (hC : gC p c cc s m args own D cy ad A) (hI : gI D cy ad A s.heap σ H locs) (hL : (Cond.fieldLink own index "FestivalFields$Ground" "arcsFrom" "[I") ∈ gG) (hdg : decode cc pc = .ok (.getfield index, 3)) (kk : W p l e R s m args below meth c H locs cells slots Q (F0 m (pc + 3) ls (.ref (ad 28) :: rest))) : W p l e R s m args below meth c H locs cells slots Q (F0 m pc ls (.ref (ad 4) :: rest)) := 
  va_get (D := D) (ci := 2) (v := .ref (ad 28)) (C := RX2) (T := TX2) (N := 13) hC.1 hC.2.1 hC.2.2.1 gin_X2 hC.2.2.2.1 hC.2.2.2.2.1 hI.1 4 rfl rfl 8 (by decide) (hC.2.2.1 _ hL) (fun _ h9 => h9) rfl hdg kk
theorem gg_X2_arcCounts (hC : gC p c cc s m args own D cy ad A) (hI : gI D cy ad A s.heap σ H locs) (hL : (Cond.fieldLink own index "FestivalFields$Ground" "arcCounts" "[I") ∈ gG) (hdg : decode cc pc = .ok (.getfield index, 3)) (kk : W p l e R s m args below meth c H locs cells slots Q (F0 m (pc + 3) ls (.ref (ad 29) :: rest))) : W p l e R s m args below meth c H locs cells slots Q (F0 m pc ls (.ref (ad 4) :: rest)) := 
  va_get (D := D) (ci := 2) (v := .ref (ad 29)) (C := RX2) (T := TX2) (N := 13) hC.1 hC.2.1 hC.2.2.1 gin_X2 hC.2.2.2.1 hC.2.2.2.2.1 hI.1 4 rfl rfl 9 (by decide) (hC.2.2.1 _ hL) (fun _ h9 => h9) rfl hdg kk
theorem gg_X2_escape (hC : gC p c cc s m args own D cy ad A) (hI : gI D cy ad A s.heap σ H locs) (hL : (Cond.fieldLink own index "FestivalFields$Ground" "escape" "LFestivalFields$Escape;") ∈ gG) (hdg : decode cc pc = .ok (.getfield index, 3)) (kk : W p l e R s m args below meth c H locs cells slots Q (F0 m (pc + 3) ls (.ref (ad 5) :: rest))) : W p l e R s m args below meth c H locs cells slots Q (F0 m pc ls (.ref (ad 4) :: rest)) := 
  va_get (D := D) (ci := 2) (v := .ref (ad 5)) (C := RX2) (T := TX2) (N := 13) hC.1 hC.2.1 hC.2.2.1 gin_X2 hC.2.2.2.1 hC.2.2.2.2.1 hI.1 4 rfl rfl 10 (by decide) (hC.2.2.1 _ hL) (fun _ h9 => h9) rfl hdg kk
theorem gg_X2_knownEmpty (hC : gC p c cc s m args own D cy ad A) (hI : gI D cy ad A s.heap σ H locs) (hL : (Cond.fieldLink own index "FestivalFields$Ground" "knownEmpty" "I") ∈ gG) (hdg : decode cc pc = .ok (.getfield index, 3)) (kk : W p l e R s m args below meth c H locs cells slots Q (F0 m (pc + 3) ls (.int (σ 33 0) :: rest))) : W p l e R s m args below meth c H locs cells slots Q (F0 m pc ls (.ref (ad 4) :: rest)) := 
  va_get (D := D) (ci := 2) (v := .int (σ 33 0)) (C := RX2) (T := TX2) (N := 13) hC.1 hC.2.1 hC.2.2.1 gin_X2 hC.2.2.2.1 hC.2.2.2.2.1 hI.1 4 rfl rfl 11 (by decide) (hC.2.2.1 _ hL) (fun _ h9 => h9) rfl hdg kk
theorem gp_X2_knownEmpty (hC : gC p c cc s m args own D cy ad A) (hI : gI D cy ad A s.heap σ H locs) {v : Int32} (hL : (Cond.fieldLink own index "FestivalFields$Ground" "knownEmpty" "I") ∈ gG) (hdg : decode cc pc = .ok (.putfield index, 3)) (kk : ∀ (σ1 : gS) (H1 : Heap) (locs1 : List Loc), σ1 = gu σ 33 0 v → gI D cy ad A s.heap σ1 H1 locs1 → W p l e R s m args below meth c H1 locs1 cells slots Q (F0 m (pc + 3) ls rest)) : W p l e R s m args below meth c H locs cells slots Q (F0 m pc ls (.int v :: .ref (ad 4) :: rest)) := 
  va_put (D := D) (ci := 2) (v := .int v) (ty := .int) (C := RX2) (T := TX2) (N := 13) hC.1 hC.2.1 hC.2.2.1 gin_X2 tyX2 tyX2_ok nmX2 hC.2.2.2.1 hC.2.2.2.2.1 hI.1 hI.2.1 hI.2.2 4 rfl rfl 11 (by decide) (hC.2.2.1 _ hL) (fun _ h9 => h9) rfl (by decide +kernel) rfl rfl (Nat.le_of_ble_eq_true rfl) hdg (fun H1 locs1 hP hD hS => kk _ H1 locs1 rfl ⟨hP, hD, hS⟩)
theorem gg_X2_knownWorst (hC : gC p c cc s m args own D cy ad A) (hI : gI D cy ad A s.heap σ H locs) (hL : (Cond.fieldLink own index "FestivalFields$Ground" "knownWorst" "I") ∈ gG) (hdg : decode cc pc = .ok (.getfield index, 3)) (kk : W p l e R s m args below meth c H locs cells slots Q (F0 m (pc + 3) ls (.int (σ 34 0) :: rest))) : W p l e R s m args below meth c H locs cells slots Q (F0 m pc ls (.ref (ad 4) :: rest)) := 
  va_get (D := D) (ci := 2) (v := .int (σ 34 0)) (C := RX2) (T := TX2) (N := 13) hC.1 hC.2.1 hC.2.2.1 gin_X2 hC.2.2.2.1 hC.2.2.2.2.1 hI.1 4 rfl rfl 12 (by decide) (hC.2.2.1 _ hL) (fun _ h9 => h9) rfl hdg kk
theorem gp_X2_knownWorst (hC : gC p c cc s m args own D cy ad A) (hI : gI D cy ad A s.heap σ H locs) {v : Int32} (hL : (Cond.fieldLink own index "FestivalFields$Ground" "knownWorst" "I") ∈ gG) (hdg : decode cc pc = .ok (.putfield index, 3)) (kk : ∀ (σ1 : gS) (H1 : Heap) (locs1 : List Loc), σ1 = gu σ 34 0 v → gI D cy ad A s.heap σ1 H1 locs1 → W p l e R s m args below meth c H1 locs1 cells slots Q (F0 m (pc + 3) ls rest)) : W p l e R s m args below meth c H locs cells slots Q (F0 m pc ls (.int v :: .ref (ad 4) :: rest)) := 
  va_put (D := D) (ci := 2) (v := .int v) (ty := .int) (C := RX2) (T := TX2) (N := 13) hC.1 hC.2.1 hC.2.2.1 gin_X2 tyX2 tyX2_ok nmX2 hC.2.2.2.1 hC.2.2.2.2.1 hI.1 hI.2.1 hI.2.2 4 rfl rfl 12 (by decide) (hC.2.2.1 _ hL) (fun _ h9 => h9) rfl (by decide +kernel) rfl rfl (Nat.le_of_ble_eq_true rfl) hdg (fun H1 locs1 hP hD hS => kk _ H1 locs1 rfl ⟨hP, hD, hS⟩)
theorem gg_X0_ground (hC : gC p c cc s m args own D cy ad A) (hI : gI D cy ad A s.heap σ H locs) (hL : (Cond.fieldLink own index "FestivalFields$Escape" "ground" "LFestivalFields$Ground;") ∈ gG) (hdg : decode cc pc = .ok (.getfield index, 3)) (hz : ¬ σ 35 0 = 0) (kk : W p l e R s m args below meth c H locs cells slots Q (F0 m (pc + 3) ls (.ref (ad 4) :: rest))) : W p l e R s m args below meth c H locs cells slots Q (F0 m pc ls (.ref (ad 5) :: rest)) := 
  va_get (D := D) (ci := 0) (v := .ref (ad 4)) (C := RX0) (T := TX0) (N := 12) hC.1 hC.2.1 hC.2.2.1 gin_X0 hC.2.2.2.1 hC.2.2.2.2.1 hI.1 5 rfl rfl 0 (by decide) (hC.2.2.1 _ hL) (fun _ h9 => h9) (by show some (gnl (ad 4) (σ 35 0)) = _; rw [gnl, if_neg hz]) hdg kk
theorem gp_X0_ground (hC : gC p c cc s m args own D cy ad A) (hI : gI D cy ad A s.heap σ H locs) (hL : (Cond.fieldLink own index "FestivalFields$Escape" "ground" "LFestivalFields$Ground;") ∈ gG) (hdg : decode cc pc = .ok (.putfield index, 3)) (kk : ∀ (σ1 : gS) (H1 : Heap) (locs1 : List Loc), σ1 = gu σ 35 0 1 → gI D cy ad A s.heap σ1 H1 locs1 → W p l e R s m args below meth c H1 locs1 cells slots Q (F0 m (pc + 3) ls rest)) : W p l e R s m args below meth c H locs cells slots Q (F0 m pc ls (.ref (ad 4) :: .ref (ad 5) :: rest)) := 
  va_put (D := D) (ci := 0) (v := .ref (ad 4)) (ty := .object "FestivalFields$Ground") (C := RX0) (T := TX0) (N := 12) hC.1 hC.2.1 hC.2.2.1 gin_X0 tyX0 tyX0_ok nmX0 hC.2.2.2.1 hC.2.2.2.2.1 hI.1 hI.2.1 hI.2.2 5 rfl rfl 0 (by decide) (hC.2.2.1 _ hL) (fun _ h9 => h9) rfl (by decide +kernel) rfl rfl (Nat.le_of_ble_eq_true rfl) hdg (fun H1 locs1 hP hD hS => kk _ H1 locs1 rfl ⟨hP, hD, hS⟩)
theorem gg_X0_lastMinute (hC : gC p c cc s m args own D cy ad A) (hI : gI D cy ad A s.heap σ H locs) (hL : (Cond.fieldLink own index "FestivalFields$Escape" "lastMinute" "I") ∈ gG) (hdg : decode cc pc = .ok (.getfield index, 3)) (kk : W p l e R s m args below meth c H locs cells slots Q (F0 m (pc + 3) ls (.int (σ 36 0) :: rest))) : W p l e R s m args below meth c H locs cells slots Q (F0 m pc ls (.ref (ad 5) :: rest)) := 
  va_get (D := D) (ci := 0) (v := .int (σ 36 0)) (C := RX0) (T := TX0) (N := 12) hC.1 hC.2.1 hC.2.2.1 gin_X0 hC.2.2.2.1 hC.2.2.2.2.1 hI.1 5 rfl rfl 1 (by decide) (hC.2.2.1 _ hL) (fun _ h9 => h9) rfl hdg kk
theorem gp_X0_lastMinute (hC : gC p c cc s m args own D cy ad A) (hI : gI D cy ad A s.heap σ H locs) {v : Int32} (hL : (Cond.fieldLink own index "FestivalFields$Escape" "lastMinute" "I") ∈ gG) (hdg : decode cc pc = .ok (.putfield index, 3)) (kk : ∀ (σ1 : gS) (H1 : Heap) (locs1 : List Loc), σ1 = gu σ 36 0 v → gI D cy ad A s.heap σ1 H1 locs1 → W p l e R s m args below meth c H1 locs1 cells slots Q (F0 m (pc + 3) ls rest)) : W p l e R s m args below meth c H locs cells slots Q (F0 m pc ls (.int v :: .ref (ad 5) :: rest)) := 
  va_put (D := D) (ci := 0) (v := .int v) (ty := .int) (C := RX0) (T := TX0) (N := 12) hC.1 hC.2.1 hC.2.2.1 gin_X0 tyX0 tyX0_ok nmX0 hC.2.2.2.1 hC.2.2.2.2.1 hI.1 hI.2.1 hI.2.2 5 rfl rfl 1 (by decide) (hC.2.2.1 _ hL) (fun _ h9 => h9) rfl (by decide +kernel) rfl rfl (Nat.le_of_ble_eq_true rfl) hdg (fun H1 locs1 hP hD hS => kk _ H1 locs1 rfl ⟨hP, hD, hS⟩)
theorem gg_X0_begins (hC : gC p c cc s m args own D cy ad A) (hI : gI D cy ad A s.heap σ H locs) (hL : (Cond.fieldLink own index "FestivalFields$Escape" "begins" "[I") ∈ gG) (hdg : decode cc pc = .ok (.getfield index, 3)) (kk : W p l e R s m args below meth c H locs cells slots Q (F0 m (pc + 3) ls (.ref (ad 30) :: rest))) : W p l e R s m args below meth c H locs cells slots Q (F0 m pc ls (.ref (ad 5) :: rest)) := 
  va_get (D := D) (ci := 0) (v := .ref (ad 30)) (C := RX0) (T := TX0) (N := 12) hC.1 hC.2.1 hC.2.2.1 gin_X0 hC.2.2.2.1 hC.2.2.2.2.1 hI.1 5 rfl rfl 2 (by decide) (hC.2.2.1 _ hL) (fun _ h9 => h9) rfl hdg kk
theorem gg_X0_waits (hC : gC p c cc s m args own D cy ad A) (hI : gI D cy ad A s.heap σ H locs) (hL : (Cond.fieldLink own index "FestivalFields$Escape" "waits" "[I") ∈ gG) (hdg : decode cc pc = .ok (.getfield index, 3)) (kk : W p l e R s m args below meth c H locs cells slots Q (F0 m (pc + 3) ls (.ref (ad 31) :: rest))) : W p l e R s m args below meth c H locs cells slots Q (F0 m pc ls (.ref (ad 5) :: rest)) := 
  va_get (D := D) (ci := 0) (v := .ref (ad 31)) (C := RX0) (T := TX0) (N := 12) hC.1 hC.2.1 hC.2.2.1 gin_X0 hC.2.2.2.1 hC.2.2.2.2.1 hI.1 5 rfl rfl 3 (by decide) (hC.2.2.1 _ hL) (fun _ h9 => h9) rfl hdg kk
theorem gg_X0_totals (hC : gC p c cc s m args own D cy ad A) (hI : gI D cy ad A s.heap σ H locs) (hL : (Cond.fieldLink own index "FestivalFields$Escape" "totals" "[I") ∈ gG) (hdg : decode cc pc = .ok (.getfield index, 3)) (kk : W p l e R s m args below meth c H locs cells slots Q (F0 m (pc + 3) ls (.ref (ad 32) :: rest))) : W p l e R s m args below meth c H locs cells slots Q (F0 m pc ls (.ref (ad 5) :: rest)) := 
  va_get (D := D) (ci := 0) (v := .ref (ad 32)) (C := RX0) (T := TX0) (N := 12) hC.1 hC.2.1 hC.2.2.1 gin_X0 hC.2.2.2.1 hC.2.2.2.2.1 hI.1 5 rfl rfl 4 (by decide) (hC.2.2.1 _ hL) (fun _ h9 => h9) rfl hdg kk
theorem gg_X0_unsent (hC : gC p c cc s m args own D cy ad A) (hI : gI D cy ad A s.heap σ H locs) (hL : (Cond.fieldLink own index "FestivalFields$Escape" "unsent" "[I") ∈ gG) (hdg : decode cc pc = .ok (.getfield index, 3)) (kk : W p l e R s m args below meth c H locs cells slots Q (F0 m (pc + 3) ls (.ref (ad 33) :: rest))) : W p l e R s m args below meth c H locs cells slots Q (F0 m pc ls (.ref (ad 5) :: rest)) := 
  va_get (D := D) (ci := 0) (v := .ref (ad 33)) (C := RX0) (T := TX0) (N := 12) hC.1 hC.2.1 hC.2.2.1 gin_X0 hC.2.2.2.1 hC.2.2.2.2.1 hI.1 5 rfl rfl 5 (by decide) (hC.2.2.1 _ hL) (fun _ h9 => h9) rfl hdg kk
theorem gg_X0_gateRoom (hC : gC p c cc s m args own D cy ad A) (hI : gI D cy ad A s.heap σ H locs) (hL : (Cond.fieldLink own index "FestivalFields$Escape" "gateRoom" "[I") ∈ gG) (hdg : decode cc pc = .ok (.getfield index, 3)) (kk : W p l e R s m args below meth c H locs cells slots Q (F0 m (pc + 3) ls (.ref (ad 34) :: rest))) : W p l e R s m args below meth c H locs cells slots Q (F0 m pc ls (.ref (ad 5) :: rest)) := 
  va_get (D := D) (ci := 0) (v := .ref (ad 34)) (C := RX0) (T := TX0) (N := 12) hC.1 hC.2.1 hC.2.2.1 gin_X0 hC.2.2.2.1 hC.2.2.2.2.1 hI.1 5 rfl rfl 6 (by decide) (hC.2.2.1 _ hL) (fun _ h9 => h9) rfl hdg kk
theorem gg_X0_latest (hC : gC p c cc s m args own D cy ad A) (hI : gI D cy ad A s.heap σ H locs) (hL : (Cond.fieldLink own index "FestivalFields$Escape" "latest" "[I") ∈ gG) (hdg : decode cc pc = .ok (.getfield index, 3)) (kk : W p l e R s m args below meth c H locs cells slots Q (F0 m (pc + 3) ls (.ref (ad 35) :: rest))) : W p l e R s m args below meth c H locs cells slots Q (F0 m pc ls (.ref (ad 5) :: rest)) := 
  va_get (D := D) (ci := 0) (v := .ref (ad 35)) (C := RX0) (T := TX0) (N := 12) hC.1 hC.2.1 hC.2.2.1 gin_X0 hC.2.2.2.1 hC.2.2.2.2.1 hI.1 5 rfl rfl 7 (by decide) (hC.2.2.1 _ hL) (fun _ h9 => h9) rfl hdg kk
theorem gg_X0_isNew (hC : gC p c cc s m args own D cy ad A) (hI : gI D cy ad A s.heap σ H locs) (hL : (Cond.fieldLink own index "FestivalFields$Escape" "isNew" "[Z") ∈ gG) (hdg : decode cc pc = .ok (.getfield index, 3)) (kk : W p l e R s m args below meth c H locs cells slots Q (F0 m (pc + 3) ls (.ref (ad 36) :: rest))) : W p l e R s m args below meth c H locs cells slots Q (F0 m pc ls (.ref (ad 5) :: rest)) := 
  va_get (D := D) (ci := 0) (v := .ref (ad 36)) (C := RX0) (T := TX0) (N := 12) hC.1 hC.2.1 hC.2.2.1 gin_X0 hC.2.2.2.1 hC.2.2.2.2.1 hI.1 5 rfl rfl 8 (by decide) (hC.2.2.1 _ hL) (fun _ h9 => h9) rfl hdg kk
theorem gg_X0_steps (hC : gC p c cc s m args own D cy ad A) (hI : gI D cy ad A s.heap σ H locs) (hL : (Cond.fieldLink own index "FestivalFields$Escape" "steps" "[I") ∈ gG) (hdg : decode cc pc = .ok (.getfield index, 3)) (kk : W p l e R s m args below meth c H locs cells slots Q (F0 m (pc + 3) ls (.ref (ad 37) :: rest))) : W p l e R s m args below meth c H locs cells slots Q (F0 m pc ls (.ref (ad 5) :: rest)) := 
  va_get (D := D) (ci := 0) (v := .ref (ad 37)) (C := RX0) (T := TX0) (N := 12) hC.1 hC.2.1 hC.2.2.1 gin_X0 hC.2.2.2.1 hC.2.2.2.2.1 hI.1 5 rfl rfl 9 (by decide) (hC.2.2.1 _ hL) (fun _ h9 => h9) rfl hdg kk
theorem gg_X0_nextMinutes (hC : gC p c cc s m args own D cy ad A) (hI : gI D cy ad A s.heap σ H locs) (hL : (Cond.fieldLink own index "FestivalFields$Escape" "nextMinutes" "[I") ∈ gG) (hdg : decode cc pc = .ok (.getfield index, 3)) (kk : W p l e R s m args below meth c H locs cells slots Q (F0 m (pc + 3) ls (.ref (ad 38) :: rest))) : W p l e R s m args below meth c H locs cells slots Q (F0 m pc ls (.ref (ad 5) :: rest)) := 
  va_get (D := D) (ci := 0) (v := .ref (ad 38)) (C := RX0) (T := TX0) (N := 12) hC.1 hC.2.1 hC.2.2.1 gin_X0 hC.2.2.2.1 hC.2.2.2.2.1 hI.1 5 rfl rfl 10 (by decide) (hC.2.2.1 _ hL) (fun _ h9 => h9) rfl hdg kk
theorem gg_X0_rooms (hC : gC p c cc s m args own D cy ad A) (hI : gI D cy ad A s.heap σ H locs) (hL : (Cond.fieldLink own index "FestivalFields$Escape" "rooms" "[I") ∈ gG) (hdg : decode cc pc = .ok (.getfield index, 3)) (kk : W p l e R s m args below meth c H locs cells slots Q (F0 m (pc + 3) ls (.ref (ad 39) :: rest))) : W p l e R s m args below meth c H locs cells slots Q (F0 m pc ls (.ref (ad 5) :: rest)) := 
  va_get (D := D) (ci := 0) (v := .ref (ad 39)) (C := RX0) (T := TX0) (N := 12) hC.1 hC.2.1 hC.2.2.1 gin_X0 hC.2.2.2.1 hC.2.2.2.2.1 hI.1 5 rfl rfl 11 (by decide) (hC.2.2.1 _ hL) (fun _ h9 => h9) rfl hdg kk
theorem gg_X4_arcs (hC : gC p c cc s m args own D cy ad A) (hI : gI D cy ad A s.heap σ H locs) (hL : (Cond.fieldLink own index "FestivalFields$Programme" "arcs" "[I") ∈ gG) (hdg : decode cc pc = .ok (.getfield index, 3)) (kk : W p l e R s m args below meth c H locs cells slots Q (F0 m (pc + 3) ls (.ref (ad 40) :: rest))) : W p l e R s m args below meth c H locs cells slots Q (F0 m pc ls (.ref (ad 6) :: rest)) := 
  va_get (D := D) (ci := 4) (v := .ref (ad 40)) (C := RX4) (T := TX4) (N := 10) hC.1 hC.2.1 hC.2.2.1 gin_X4 hC.2.2.2.1 hC.2.2.2.2.1 hI.1 6 rfl rfl 0 (by decide) (hC.2.2.1 _ hL) (fun _ h9 => h9) rfl hdg kk
theorem gg_X4_wides (hC : gC p c cc s m args own D cy ad A) (hI : gI D cy ad A s.heap σ H locs) (hL : (Cond.fieldLink own index "FestivalFields$Programme" "wides" "[I") ∈ gG) (hdg : decode cc pc = .ok (.getfield index, 3)) (kk : W p l e R s m args below meth c H locs cells slots Q (F0 m (pc + 3) ls (.ref (ad 41) :: rest))) : W p l e R s m args below meth c H locs cells slots Q (F0 m pc ls (.ref (ad 6) :: rest)) := 
  va_get (D := D) (ci := 4) (v := .ref (ad 41)) (C := RX4) (T := TX4) (N := 10) hC.1 hC.2.1 hC.2.2.1 gin_X4 hC.2.2.2.1 hC.2.2.2.2.1 hI.1 6 rfl rfl 1 (by decide) (hC.2.2.1 _ hL) (fun _ h9 => h9) rfl hdg kk
theorem gg_X4_ends (hC : gC p c cc s m args own D cy ad A) (hI : gI D cy ad A s.heap σ H locs) (hL : (Cond.fieldLink own index "FestivalFields$Programme" "ends" "[I") ∈ gG) (hdg : decode cc pc = .ok (.getfield index, 3)) (kk : W p l e R s m args below meth c H locs cells slots Q (F0 m (pc + 3) ls (.ref (ad 42) :: rest))) : W p l e R s m args below meth c H locs cells slots Q (F0 m pc ls (.ref (ad 6) :: rest)) := 
  va_get (D := D) (ci := 4) (v := .ref (ad 42)) (C := RX4) (T := TX4) (N := 10) hC.1 hC.2.1 hC.2.2.1 gin_X4 hC.2.2.2.1 hC.2.2.2.2.1 hI.1 6 rfl rfl 2 (by decide) (hC.2.2.1 _ hL) (fun _ h9 => h9) rfl hdg kk
theorem gg_X4_peoples (hC : gC p c cc s m args own D cy ad A) (hI : gI D cy ad A s.heap σ H locs) (hL : (Cond.fieldLink own index "FestivalFields$Programme" "peoples" "[I") ∈ gG) (hdg : decode cc pc = .ok (.getfield index, 3)) (kk : W p l e R s m args below meth c H locs cells slots Q (F0 m (pc + 3) ls (.ref (ad 43) :: rest))) : W p l e R s m args below meth c H locs cells slots Q (F0 m pc ls (.ref (ad 6) :: rest)) := 
  va_get (D := D) (ci := 4) (v := .ref (ad 43)) (C := RX4) (T := TX4) (N := 10) hC.1 hC.2.1 hC.2.2.1 gin_X4 hC.2.2.2.1 hC.2.2.2.2.1 hI.1 6 rfl rfl 3 (by decide) (hC.2.2.1 _ hL) (fun _ h9 => h9) rfl hdg kk
theorem gg_X4_acts (hC : gC p c cc s m args own D cy ad A) (hI : gI D cy ad A s.heap σ H locs) (hL : (Cond.fieldLink own index "FestivalFields$Programme" "acts" "I") ∈ gG) (hdg : decode cc pc = .ok (.getfield index, 3)) (kk : W p l e R s m args below meth c H locs cells slots Q (F0 m (pc + 3) ls (.int (σ 51 0) :: rest))) : W p l e R s m args below meth c H locs cells slots Q (F0 m pc ls (.ref (ad 6) :: rest)) := 
  va_get (D := D) (ci := 4) (v := .int (σ 51 0)) (C := RX4) (T := TX4) (N := 10) hC.1 hC.2.1 hC.2.2.1 gin_X4 hC.2.2.2.1 hC.2.2.2.2.1 hI.1 6 rfl rfl 4 (by decide) (hC.2.2.1 _ hL) (fun _ h9 => h9) rfl hdg kk
theorem gp_X4_acts (hC : gC p c cc s m args own D cy ad A) (hI : gI D cy ad A s.heap σ H locs) {v : Int32} (hL : (Cond.fieldLink own index "FestivalFields$Programme" "acts" "I") ∈ gG) (hdg : decode cc pc = .ok (.putfield index, 3)) (kk : ∀ (σ1 : gS) (H1 : Heap) (locs1 : List Loc), σ1 = gu σ 51 0 v → gI D cy ad A s.heap σ1 H1 locs1 → W p l e R s m args below meth c H1 locs1 cells slots Q (F0 m (pc + 3) ls rest)) : W p l e R s m args below meth c H locs cells slots Q (F0 m pc ls (.int v :: .ref (ad 6) :: rest)) := 
  va_put (D := D) (ci := 4) (v := .int v) (ty := .int) (C := RX4) (T := TX4) (N := 10) hC.1 hC.2.1 hC.2.2.1 gin_X4 tyX4 tyX4_ok nmX4 hC.2.2.2.1 hC.2.2.2.2.1 hI.1 hI.2.1 hI.2.2 6 rfl rfl 4 (by decide) (hC.2.2.1 _ hL) (fun _ h9 => h9) rfl (by decide +kernel) rfl rfl (Nat.le_of_ble_eq_true rfl) hdg (fun H1 locs1 hP hD hS => kk _ H1 locs1 rfl ⟨hP, hD, hS⟩)
theorem gg_X4_shifts (hC : gC p c cc s m args own D cy ad A) (hI : gI D cy ad A s.heap σ H locs) (hL : (Cond.fieldLink own index "FestivalFields$Programme" "shifts" "[I") ∈ gG) (hdg : decode cc pc = .ok (.getfield index, 3)) (kk : W p l e R s m args below meth c H locs cells slots Q (F0 m (pc + 3) ls (.ref (ad 44) :: rest))) : W p l e R s m args below meth c H locs cells slots Q (F0 m pc ls (.ref (ad 6) :: rest)) := 
  va_get (D := D) (ci := 4) (v := .ref (ad 44)) (C := RX4) (T := TX4) (N := 10) hC.1 hC.2.1 hC.2.2.1 gin_X4 hC.2.2.2.1 hC.2.2.2.2.1 hI.1 6 rfl rfl 5 (by decide) (hC.2.2.1 _ hL) (fun _ h9 => h9) rfl hdg kk
theorem gg_X4_bestShifts (hC : gC p c cc s m args own D cy ad A) (hI : gI D cy ad A s.heap σ H locs) (hL : (Cond.fieldLink own index "FestivalFields$Programme" "bestShifts" "[I") ∈ gG) (hdg : decode cc pc = .ok (.getfield index, 3)) (kk : W p l e R s m args below meth c H locs cells slots Q (F0 m (pc + 3) ls (.ref (ad 45) :: rest))) : W p l e R s m args below meth c H locs cells slots Q (F0 m pc ls (.ref (ad 6) :: rest)) := 
  va_get (D := D) (ci := 4) (v := .ref (ad 45)) (C := RX4) (T := TX4) (N := 10) hC.1 hC.2.1 hC.2.2.1 gin_X4 hC.2.2.2.1 hC.2.2.2.2.1 hI.1 6 rfl rfl 6 (by decide) (hC.2.2.1 _ hL) (fun _ h9 => h9) rfl hdg kk
theorem gg_X4_bestOver (hC : gC p c cc s m args own D cy ad A) (hI : gI D cy ad A s.heap σ H locs) (hL : (Cond.fieldLink own index "FestivalFields$Programme" "bestOver" "I") ∈ gG) (hdg : decode cc pc = .ok (.getfield index, 3)) (kk : W p l e R s m args below meth c H locs cells slots Q (F0 m (pc + 3) ls (.int (σ 54 0) :: rest))) : W p l e R s m args below meth c H locs cells slots Q (F0 m pc ls (.ref (ad 6) :: rest)) := 
  va_get (D := D) (ci := 4) (v := .int (σ 54 0)) (C := RX4) (T := TX4) (N := 10) hC.1 hC.2.1 hC.2.2.1 gin_X4 hC.2.2.2.1 hC.2.2.2.2.1 hI.1 6 rfl rfl 7 (by decide) (hC.2.2.1 _ hL) (fun _ h9 => h9) rfl hdg kk
theorem gp_X4_bestOver (hC : gC p c cc s m args own D cy ad A) (hI : gI D cy ad A s.heap σ H locs) {v : Int32} (hL : (Cond.fieldLink own index "FestivalFields$Programme" "bestOver" "I") ∈ gG) (hdg : decode cc pc = .ok (.putfield index, 3)) (kk : ∀ (σ1 : gS) (H1 : Heap) (locs1 : List Loc), σ1 = gu σ 54 0 v → gI D cy ad A s.heap σ1 H1 locs1 → W p l e R s m args below meth c H1 locs1 cells slots Q (F0 m (pc + 3) ls rest)) : W p l e R s m args below meth c H locs cells slots Q (F0 m pc ls (.int v :: .ref (ad 6) :: rest)) := 
  va_put (D := D) (ci := 4) (v := .int v) (ty := .int) (C := RX4) (T := TX4) (N := 10) hC.1 hC.2.1 hC.2.2.1 gin_X4 tyX4 tyX4_ok nmX4 hC.2.2.2.1 hC.2.2.2.2.1 hI.1 hI.2.1 hI.2.2 6 rfl rfl 7 (by decide) (hC.2.2.1 _ hL) (fun _ h9 => h9) rfl (by decide +kernel) rfl rfl (Nat.le_of_ble_eq_true rfl) hdg (fun H1 locs1 hP hD hS => kk _ H1 locs1 rfl ⟨hP, hD, hS⟩)
theorem gg_X4_bestSum (hC : gC p c cc s m args own D cy ad A) (hI : gI D cy ad A s.heap σ H locs) (hL : (Cond.fieldLink own index "FestivalFields$Programme" "bestSum" "I") ∈ gG) (hdg : decode cc pc = .ok (.getfield index, 3)) (kk : W p l e R s m args below meth c H locs cells slots Q (F0 m (pc + 3) ls (.int (σ 55 0) :: rest))) : W p l e R s m args below meth c H locs cells slots Q (F0 m pc ls (.ref (ad 6) :: rest)) := 
  va_get (D := D) (ci := 4) (v := .int (σ 55 0)) (C := RX4) (T := TX4) (N := 10) hC.1 hC.2.1 hC.2.2.1 gin_X4 hC.2.2.2.1 hC.2.2.2.2.1 hI.1 6 rfl rfl 8 (by decide) (hC.2.2.1 _ hL) (fun _ h9 => h9) rfl hdg kk
theorem gp_X4_bestSum (hC : gC p c cc s m args own D cy ad A) (hI : gI D cy ad A s.heap σ H locs) {v : Int32} (hL : (Cond.fieldLink own index "FestivalFields$Programme" "bestSum" "I") ∈ gG) (hdg : decode cc pc = .ok (.putfield index, 3)) (kk : ∀ (σ1 : gS) (H1 : Heap) (locs1 : List Loc), σ1 = gu σ 55 0 v → gI D cy ad A s.heap σ1 H1 locs1 → W p l e R s m args below meth c H1 locs1 cells slots Q (F0 m (pc + 3) ls rest)) : W p l e R s m args below meth c H locs cells slots Q (F0 m pc ls (.int v :: .ref (ad 6) :: rest)) := 
  va_put (D := D) (ci := 4) (v := .int v) (ty := .int) (C := RX4) (T := TX4) (N := 10) hC.1 hC.2.1 hC.2.2.1 gin_X4 tyX4 tyX4_ok nmX4 hC.2.2.2.1 hC.2.2.2.2.1 hI.1 hI.2.1 hI.2.2 6 rfl rfl 8 (by decide) (hC.2.2.1 _ hL) (fun _ h9 => h9) rfl (by decide +kernel) rfl rfl (Nat.le_of_ble_eq_true rfl) hdg (fun H1 locs1 hP hD hS => kk _ H1 locs1 rfl ⟨hP, hD, hS⟩)
theorem gg_X4_isKnown (hC : gC p c cc s m args own D cy ad A) (hI : gI D cy ad A s.heap σ H locs) (hL : (Cond.fieldLink own index "FestivalFields$Programme" "isKnown" "Z") ∈ gG) (hdg : decode cc pc = .ok (.getfield index, 3)) (kk : W p l e R s m args below meth c H locs cells slots Q (F0 m (pc + 3) ls (.int (σ 56 0) :: rest))) : W p l e R s m args below meth c H locs cells slots Q (F0 m pc ls (.ref (ad 6) :: rest)) := 
  va_get (D := D) (ci := 4) (v := .int (σ 56 0)) (C := RX4) (T := TX4) (N := 10) hC.1 hC.2.1 hC.2.2.1 gin_X4 hC.2.2.2.1 hC.2.2.2.2.1 hI.1 6 rfl rfl 9 (by decide) (hC.2.2.1 _ hL) (fun _ h9 => h9) rfl hdg kk
theorem gp_X4_isKnown (hC : gC p c cc s m args own D cy ad A) (hI : gI D cy ad A s.heap σ H locs) {v : Int32} (hz : narrow .boolean (.int v) = .int v) (hf : fits .boolean (.int v) = true) (hL : (Cond.fieldLink own index "FestivalFields$Programme" "isKnown" "Z") ∈ gG) (hdg : decode cc pc = .ok (.putfield index, 3)) (kk : ∀ (σ1 : gS) (H1 : Heap) (locs1 : List Loc), σ1 = gu σ 56 0 v → gI D cy ad A s.heap σ1 H1 locs1 → W p l e R s m args below meth c H1 locs1 cells slots Q (F0 m (pc + 3) ls rest)) : W p l e R s m args below meth c H locs cells slots Q (F0 m pc ls (.int v :: .ref (ad 6) :: rest)) := 
  va_put (D := D) (ci := 4) (v := .int v) (ty := .boolean) (C := RX4) (T := TX4) (N := 10) hC.1 hC.2.1 hC.2.2.1 gin_X4 tyX4 tyX4_ok nmX4 hC.2.2.2.1 hC.2.2.2.2.1 hI.1 hI.2.1 hI.2.2 6 rfl rfl 9 (by decide) (hC.2.2.1 _ hL) (fun _ h9 => h9) rfl (by decide +kernel) hz hf (Nat.le_of_ble_eq_true rfl) hdg (fun H1 locs1 hP hD hS => kk _ H1 locs1 rfl ⟨hP, hD, hS⟩)
theorem gg_X1_bands (hC : gC p c cc s m args own D cy ad A) (hI : gI D cy ad A s.heap σ H locs) (hL : (Cond.fieldLink own index "FestivalFields$GateBook" "bands" "[I") ∈ gG) (hdg : decode cc pc = .ok (.getfield index, 3)) (kk : W p l e R s m args below meth c H locs cells slots Q (F0 m (pc + 3) ls (.ref (ad 46) :: rest))) : W p l e R s m args below meth c H locs cells slots Q (F0 m pc ls (.ref (ad 7) :: rest)) := 
  va_get (D := D) (ci := 1) (v := .ref (ad 46)) (C := RX1) (T := TX1) (N := 6) hC.1 hC.2.1 hC.2.2.1 gin_X1 hC.2.2.2.1 hC.2.2.2.2.1 hI.1 7 rfl rfl 0 (by decide) (hC.2.2.1 _ hL) (fun _ h9 => h9) rfl hdg kk
theorem gg_X1_goesIn (hC : gC p c cc s m args own D cy ad A) (hI : gI D cy ad A s.heap σ H locs) (hL : (Cond.fieldLink own index "FestivalFields$GateBook" "goesIn" "[Z") ∈ gG) (hdg : decode cc pc = .ok (.getfield index, 3)) (kk : W p l e R s m args below meth c H locs cells slots Q (F0 m (pc + 3) ls (.ref (ad 47) :: rest))) : W p l e R s m args below meth c H locs cells slots Q (F0 m pc ls (.ref (ad 7) :: rest)) := 
  va_get (D := D) (ci := 1) (v := .ref (ad 47)) (C := RX1) (T := TX1) (N := 6) hC.1 hC.2.1 hC.2.2.1 gin_X1 hC.2.2.2.1 hC.2.2.2.2.1 hI.1 7 rfl rfl 1 (by decide) (hC.2.2.1 _ hL) (fun _ h9 => h9) rfl hdg kk
theorem gg_X1_minutes (hC : gC p c cc s m args own D cy ad A) (hI : gI D cy ad A s.heap σ H locs) (hL : (Cond.fieldLink own index "FestivalFields$GateBook" "minutes" "[I") ∈ gG) (hdg : decode cc pc = .ok (.getfield index, 3)) (kk : W p l e R s m args below meth c H locs cells slots Q (F0 m (pc + 3) ls (.ref (ad 48) :: rest))) : W p l e R s m args below meth c H locs cells slots Q (F0 m pc ls (.ref (ad 7) :: rest)) := 
  va_get (D := D) (ci := 1) (v := .ref (ad 48)) (C := RX1) (T := TX1) (N := 6) hC.1 hC.2.1 hC.2.2.1 gin_X1 hC.2.2.2.1 hC.2.2.2.2.1 hI.1 7 rfl rfl 2 (by decide) (hC.2.2.1 _ hL) (fun _ h9 => h9) rfl hdg kk
theorem gg_X1_tolds (hC : gC p c cc s m args own D cy ad A) (hI : gI D cy ad A s.heap σ H locs) (hL : (Cond.fieldLink own index "FestivalFields$GateBook" "tolds" "[I") ∈ gG) (hdg : decode cc pc = .ok (.getfield index, 3)) (kk : W p l e R s m args below meth c H locs cells slots Q (F0 m (pc + 3) ls (.ref (ad 49) :: rest))) : W p l e R s m args below meth c H locs cells slots Q (F0 m pc ls (.ref (ad 7) :: rest)) := 
  va_get (D := D) (ci := 1) (v := .ref (ad 49)) (C := RX1) (T := TX1) (N := 6) hC.1 hC.2.1 hC.2.2.1 gin_X1 hC.2.2.2.1 hC.2.2.2.2.1 hI.1 7 rfl rfl 3 (by decide) (hC.2.2.1 _ hL) (fun _ h9 => h9) rfl hdg kk
theorem gg_X1_order (hC : gC p c cc s m args own D cy ad A) (hI : gI D cy ad A s.heap σ H locs) (hL : (Cond.fieldLink own index "FestivalFields$GateBook" "order" "[I") ∈ gG) (hdg : decode cc pc = .ok (.getfield index, 3)) (kk : W p l e R s m args below meth c H locs cells slots Q (F0 m (pc + 3) ls (.ref (ad 50) :: rest))) : W p l e R s m args below meth c H locs cells slots Q (F0 m pc ls (.ref (ad 7) :: rest)) := 
  va_get (D := D) (ci := 1) (v := .ref (ad 50)) (C := RX1) (T := TX1) (N := 6) hC.1 hC.2.1 hC.2.2.1 gin_X1 hC.2.2.2.1 hC.2.2.2.2.1 hI.1 7 rfl rfl 4 (by decide) (hC.2.2.1 _ hL) (fun _ h9 => h9) rfl hdg kk
theorem gg_X1_passes (hC : gC p c cc s m args own D cy ad A) (hI : gI D cy ad A s.heap σ H locs) (hL : (Cond.fieldLink own index "FestivalFields$GateBook" "passes" "I") ∈ gG) (hdg : decode cc pc = .ok (.getfield index, 3)) (kk : W p l e R s m args below meth c H locs cells slots Q (F0 m (pc + 3) ls (.int (σ 62 0) :: rest))) : W p l e R s m args below meth c H locs cells slots Q (F0 m pc ls (.ref (ad 7) :: rest)) := 
  va_get (D := D) (ci := 1) (v := .int (σ 62 0)) (C := RX1) (T := TX1) (N := 6) hC.1 hC.2.1 hC.2.2.1 gin_X1 hC.2.2.2.1 hC.2.2.2.2.1 hI.1 7 rfl rfl 5 (by decide) (hC.2.2.1 _ hL) (fun _ h9 => h9) rfl hdg kk
theorem gp_X1_passes (hC : gC p c cc s m args own D cy ad A) (hI : gI D cy ad A s.heap σ H locs) {v : Int32} (hL : (Cond.fieldLink own index "FestivalFields$GateBook" "passes" "I") ∈ gG) (hdg : decode cc pc = .ok (.putfield index, 3)) (kk : ∀ (σ1 : gS) (H1 : Heap) (locs1 : List Loc), σ1 = gu σ 62 0 v → gI D cy ad A s.heap σ1 H1 locs1 → W p l e R s m args below meth c H1 locs1 cells slots Q (F0 m (pc + 3) ls rest)) : W p l e R s m args below meth c H locs cells slots Q (F0 m pc ls (.int v :: .ref (ad 7) :: rest)) := 
  va_put (D := D) (ci := 1) (v := .int v) (ty := .int) (C := RX1) (T := TX1) (N := 6) hC.1 hC.2.1 hC.2.2.1 gin_X1 tyX1 tyX1_ok nmX1 hC.2.2.2.1 hC.2.2.2.2.1 hI.1 hI.2.1 hI.2.2 7 rfl rfl 5 (by decide) (hC.2.2.1 _ hL) (fun _ h9 => h9) rfl (by decide +kernel) rfl rfl (Nat.le_of_ble_eq_true rfl) hdg (fun H1 locs1 hP hD hS => kk _ H1 locs1 rfl ⟨hP, hD, hS⟩)
theorem gg_X7a_kinds (hC : gC p c cc s m args own D cy ad A) (hI : gI D cy ad A s.heap σ H locs) (hL : (Cond.fieldLink own index "FestivalFields$Terms" "kinds" "[I") ∈ gG) (hdg : decode cc pc = .ok (.getfield index, 3)) (kk : W p l e R s m args below meth c H locs cells slots Q (F0 m (pc + 3) ls (.ref (ad 11) :: rest))) : W p l e R s m args below meth c H locs cells slots Q (F0 m pc ls (.ref (ad 8) :: rest)) := 
  va_get (D := D) (ci := 7) (v := .ref (ad 11)) (C := RX7) (T := TX7) (N := 5) hC.1 hC.2.1 hC.2.2.1 gin_X7 hC.2.2.2.1 hC.2.2.2.2.1 hI.1 8 rfl rfl 0 (by decide) (hC.2.2.1 _ hL) (fun _ h9 => h9) rfl hdg kk
theorem gg_X7a_mosts (hC : gC p c cc s m args own D cy ad A) (hI : gI D cy ad A s.heap σ H locs) (hL : (Cond.fieldLink own index "FestivalFields$Terms" "mosts" "[I") ∈ gG) (hdg : decode cc pc = .ok (.getfield index, 3)) (kk : W p l e R s m args below meth c H locs cells slots Q (F0 m (pc + 3) ls (.ref (ad 12) :: rest))) : W p l e R s m args below meth c H locs cells slots Q (F0 m pc ls (.ref (ad 8) :: rest)) := 
  va_get (D := D) (ci := 7) (v := .ref (ad 12)) (C := RX7) (T := TX7) (N := 5) hC.1 hC.2.1 hC.2.2.1 gin_X7 hC.2.2.2.1 hC.2.2.2.2.1 hI.1 8 rfl rfl 1 (by decide) (hC.2.2.1 _ hL) (fun _ h9 => h9) rfl hdg kk
theorem gg_X7a_firstHours (hC : gC p c cc s m args own D cy ad A) (hI : gI D cy ad A s.heap σ H locs) (hL : (Cond.fieldLink own index "FestivalFields$Terms" "firstHours" "[I") ∈ gG) (hdg : decode cc pc = .ok (.getfield index, 3)) (kk : W p l e R s m args below meth c H locs cells slots Q (F0 m (pc + 3) ls (.ref (ad 13) :: rest))) : W p l e R s m args below meth c H locs cells slots Q (F0 m pc ls (.ref (ad 8) :: rest)) := 
  va_get (D := D) (ci := 7) (v := .ref (ad 13)) (C := RX7) (T := TX7) (N := 5) hC.1 hC.2.1 hC.2.2.1 gin_X7 hC.2.2.2.1 hC.2.2.2.2.1 hI.1 8 rfl rfl 2 (by decide) (hC.2.2.1 _ hL) (fun _ h9 => h9) rfl hdg kk
theorem gg_X7a_lastHours (hC : gC p c cc s m args own D cy ad A) (hI : gI D cy ad A s.heap σ H locs) (hL : (Cond.fieldLink own index "FestivalFields$Terms" "lastHours" "[I") ∈ gG) (hdg : decode cc pc = .ok (.getfield index, 3)) (kk : W p l e R s m args below meth c H locs cells slots Q (F0 m (pc + 3) ls (.ref (ad 14) :: rest))) : W p l e R s m args below meth c H locs cells slots Q (F0 m pc ls (.ref (ad 8) :: rest)) := 
  va_get (D := D) (ci := 7) (v := .ref (ad 14)) (C := RX7) (T := TX7) (N := 5) hC.1 hC.2.1 hC.2.2.1 gin_X7 hC.2.2.2.1 hC.2.2.2.2.1 hI.1 8 rfl rfl 3 (by decide) (hC.2.2.1 _ hL) (fun _ h9 => h9) rfl hdg kk
theorem gg_X7a_size (hC : gC p c cc s m args own D cy ad A) (hI : gI D cy ad A s.heap σ H locs) (hL : (Cond.fieldLink own index "FestivalFields$Terms" "size" "I") ∈ gG) (hdg : decode cc pc = .ok (.getfield index, 3)) (kk : W p l e R s m args below meth c H locs cells slots Q (F0 m (pc + 3) ls (.int (σ 4 0) :: rest))) : W p l e R s m args below meth c H locs cells slots Q (F0 m pc ls (.ref (ad 8) :: rest)) := 
  va_get (D := D) (ci := 7) (v := .int (σ 4 0)) (C := RX7) (T := TX7) (N := 5) hC.1 hC.2.1 hC.2.2.1 gin_X7 hC.2.2.2.1 hC.2.2.2.2.1 hI.1 8 rfl rfl 4 (by decide) (hC.2.2.1 _ hL) (fun _ h9 => h9) rfl hdg kk
theorem gp_X7a_size (hC : gC p c cc s m args own D cy ad A) (hI : gI D cy ad A s.heap σ H locs) {v : Int32} (hL : (Cond.fieldLink own index "FestivalFields$Terms" "size" "I") ∈ gG) (hdg : decode cc pc = .ok (.putfield index, 3)) (kk : ∀ (σ1 : gS) (H1 : Heap) (locs1 : List Loc), σ1 = gu σ 4 0 v → gI D cy ad A s.heap σ1 H1 locs1 → W p l e R s m args below meth c H1 locs1 cells slots Q (F0 m (pc + 3) ls rest)) : W p l e R s m args below meth c H locs cells slots Q (F0 m pc ls (.int v :: .ref (ad 8) :: rest)) := 
  va_put (D := D) (ci := 7) (v := .int v) (ty := .int) (C := RX7) (T := TX7) (N := 5) hC.1 hC.2.1 hC.2.2.1 gin_X7 tyX7 tyX7_ok nmX7 hC.2.2.2.1 hC.2.2.2.2.1 hI.1 hI.2.1 hI.2.2 8 rfl rfl 4 (by decide) (hC.2.2.1 _ hL) (fun _ h9 => h9) rfl (by decide +kernel) rfl rfl (Nat.le_of_ble_eq_true rfl) hdg (fun H1 locs1 hP hD hS => kk _ H1 locs1 rfl ⟨hP, hD, hS⟩)
theorem gg_X7b_kinds (hC : gC p c cc s m args own D cy ad A) (hI : gI D cy ad A s.heap σ H locs) (hL : (Cond.fieldLink own index "FestivalFields$Terms" "kinds" "[I") ∈ gG) (hdg : decode cc pc = .ok (.getfield index, 3)) (kk : W p l e R s m args below meth c H locs cells slots Q (F0 m (pc + 3) ls (.ref (ad 15) :: rest))) : W p l e R s m args below meth c H locs cells slots Q (F0 m pc ls (.ref (ad 9) :: rest)) := 
  va_get (D := D) (ci := 7) (v := .ref (ad 15)) (C := RX7) (T := TX7) (N := 5) hC.1 hC.2.1 hC.2.2.1 gin_X7 hC.2.2.2.1 hC.2.2.2.2.1 hI.1 9 rfl rfl 0 (by decide) (hC.2.2.1 _ hL) (fun _ h9 => h9) rfl hdg kk
theorem gg_X7b_mosts (hC : gC p c cc s m args own D cy ad A) (hI : gI D cy ad A s.heap σ H locs) (hL : (Cond.fieldLink own index "FestivalFields$Terms" "mosts" "[I") ∈ gG) (hdg : decode cc pc = .ok (.getfield index, 3)) (kk : W p l e R s m args below meth c H locs cells slots Q (F0 m (pc + 3) ls (.ref (ad 16) :: rest))) : W p l e R s m args below meth c H locs cells slots Q (F0 m pc ls (.ref (ad 9) :: rest)) := 
  va_get (D := D) (ci := 7) (v := .ref (ad 16)) (C := RX7) (T := TX7) (N := 5) hC.1 hC.2.1 hC.2.2.1 gin_X7 hC.2.2.2.1 hC.2.2.2.2.1 hI.1 9 rfl rfl 1 (by decide) (hC.2.2.1 _ hL) (fun _ h9 => h9) rfl hdg kk
theorem gg_X7b_firstHours (hC : gC p c cc s m args own D cy ad A) (hI : gI D cy ad A s.heap σ H locs) (hL : (Cond.fieldLink own index "FestivalFields$Terms" "firstHours" "[I") ∈ gG) (hdg : decode cc pc = .ok (.getfield index, 3)) (kk : W p l e R s m args below meth c H locs cells slots Q (F0 m (pc + 3) ls (.ref (ad 17) :: rest))) : W p l e R s m args below meth c H locs cells slots Q (F0 m pc ls (.ref (ad 9) :: rest)) := 
  va_get (D := D) (ci := 7) (v := .ref (ad 17)) (C := RX7) (T := TX7) (N := 5) hC.1 hC.2.1 hC.2.2.1 gin_X7 hC.2.2.2.1 hC.2.2.2.2.1 hI.1 9 rfl rfl 2 (by decide) (hC.2.2.1 _ hL) (fun _ h9 => h9) rfl hdg kk
theorem gg_X7b_lastHours (hC : gC p c cc s m args own D cy ad A) (hI : gI D cy ad A s.heap σ H locs) (hL : (Cond.fieldLink own index "FestivalFields$Terms" "lastHours" "[I") ∈ gG) (hdg : decode cc pc = .ok (.getfield index, 3)) (kk : W p l e R s m args below meth c H locs cells slots Q (F0 m (pc + 3) ls (.ref (ad 18) :: rest))) : W p l e R s m args below meth c H locs cells slots Q (F0 m pc ls (.ref (ad 9) :: rest)) := 
  va_get (D := D) (ci := 7) (v := .ref (ad 18)) (C := RX7) (T := TX7) (N := 5) hC.1 hC.2.1 hC.2.2.1 gin_X7 hC.2.2.2.1 hC.2.2.2.2.1 hI.1 9 rfl rfl 3 (by decide) (hC.2.2.1 _ hL) (fun _ h9 => h9) rfl hdg kk
theorem gg_X7b_size (hC : gC p c cc s m args own D cy ad A) (hI : gI D cy ad A s.heap σ H locs) (hL : (Cond.fieldLink own index "FestivalFields$Terms" "size" "I") ∈ gG) (hdg : decode cc pc = .ok (.getfield index, 3)) (kk : W p l e R s m args below meth c H locs cells slots Q (F0 m (pc + 3) ls (.int (σ 9 0) :: rest))) : W p l e R s m args below meth c H locs cells slots Q (F0 m pc ls (.ref (ad 9) :: rest)) := 
  va_get (D := D) (ci := 7) (v := .int (σ 9 0)) (C := RX7) (T := TX7) (N := 5) hC.1 hC.2.1 hC.2.2.1 gin_X7 hC.2.2.2.1 hC.2.2.2.2.1 hI.1 9 rfl rfl 4 (by decide) (hC.2.2.1 _ hL) (fun _ h9 => h9) rfl hdg kk
theorem gp_X7b_size (hC : gC p c cc s m args own D cy ad A) (hI : gI D cy ad A s.heap σ H locs) {v : Int32} (hL : (Cond.fieldLink own index "FestivalFields$Terms" "size" "I") ∈ gG) (hdg : decode cc pc = .ok (.putfield index, 3)) (kk : ∀ (σ1 : gS) (H1 : Heap) (locs1 : List Loc), σ1 = gu σ 9 0 v → gI D cy ad A s.heap σ1 H1 locs1 → W p l e R s m args below meth c H1 locs1 cells slots Q (F0 m (pc + 3) ls rest)) : W p l e R s m args below meth c H locs cells slots Q (F0 m pc ls (.int v :: .ref (ad 9) :: rest)) := 
  va_put (D := D) (ci := 7) (v := .int v) (ty := .int) (C := RX7) (T := TX7) (N := 5) hC.1 hC.2.1 hC.2.2.1 gin_X7 tyX7 tyX7_ok nmX7 hC.2.2.2.1 hC.2.2.2.2.1 hI.1 hI.2.1 hI.2.2 9 rfl rfl 4 (by decide) (hC.2.2.1 _ hL) (fun _ h9 => h9) rfl (by decide +kernel) rfl rfl (Nat.le_of_ble_eq_true rfl) hdg (fun H1 locs1 hP hD hS => kk _ H1 locs1 rfl ⟨hP, hD, hS⟩)
theorem gg_X9_thrown (hC : gC p c cc s m args own D cy ad A) (hI : gI D cy ad A s.heap σ H locs) (hL : (Cond.fieldLink own index "FestivalFieldsModel" "thrown" "I") ∈ gG) (hdg : decode cc pc = .ok (.getfield index, 3)) (kk : W p l e R s m args below meth c H locs cells slots Q (F0 m (pc + 3) ls (.int (σ 63 0) :: rest))) : W p l e R s m args below meth c H locs cells slots Q (F0 m pc ls (.ref (ad 10) :: rest)) := 
  va_get (D := D) (ci := 9) (v := .int (σ 63 0)) (C := RX9) (T := TX9) (N := 47) hC.1 hC.2.1 hC.2.2.1 gin_X9 hC.2.2.2.1 hC.2.2.2.2.1 hI.1 10 rfl rfl 0 (by decide) (hC.2.2.1 _ hL) (fun _ h9 => h9) rfl hdg kk
theorem gp_X9_thrown (hC : gC p c cc s m args own D cy ad A) (hI : gI D cy ad A s.heap σ H locs) {v : Int32} (hL : (Cond.fieldLink own index "FestivalFieldsModel" "thrown" "I") ∈ gG) (hdg : decode cc pc = .ok (.putfield index, 3)) (kk : ∀ (σ1 : gS) (H1 : Heap) (locs1 : List Loc), σ1 = gu σ 63 0 v → gI D cy ad A s.heap σ1 H1 locs1 → W p l e R s m args below meth c H1 locs1 cells slots Q (F0 m (pc + 3) ls rest)) : W p l e R s m args below meth c H locs cells slots Q (F0 m pc ls (.int v :: .ref (ad 10) :: rest)) := 
  va_put (D := D) (ci := 9) (v := .int v) (ty := .int) (C := RX9) (T := TX9) (N := 47) hC.1 hC.2.1 hC.2.2.1 gin_X9 tyX9 tyX9_ok nmX9 hC.2.2.2.1 hC.2.2.2.2.1 hI.1 hI.2.1 hI.2.2 10 rfl rfl 0 (by decide) (hC.2.2.1 _ hL) (fun _ h9 => h9) rfl (by decide +kernel) rfl rfl (Nat.le_of_ble_eq_true rfl) hdg (fun H1 locs1 hP hD hS => kk _ H1 locs1 rfl ⟨hP, hD, hS⟩)
theorem gg_X9_on (hC : gC p c cc s m args own D cy ad A) (hI : gI D cy ad A s.heap σ H locs) (hL : (Cond.fieldLink own index "FestivalFieldsModel" "on" "[I") ∈ gG) (hdg : decode cc pc = .ok (.getfield index, 3)) (kk : W p l e R s m args below meth c H locs cells slots Q (F0 m (pc + 3) ls (.ref (ad 51) :: rest))) : W p l e R s m args below meth c H locs cells slots Q (F0 m pc ls (.ref (ad 10) :: rest)) := 
  va_get (D := D) (ci := 9) (v := .ref (ad 51)) (C := RX9) (T := TX9) (N := 47) hC.1 hC.2.1 hC.2.2.1 gin_X9 hC.2.2.2.1 hC.2.2.2.2.1 hI.1 10 rfl rfl 1 (by decide) (hC.2.2.1 _ hL) (fun _ h9 => h9) rfl hdg kk
theorem gg_X9_stands (hC : gC p c cc s m args own D cy ad A) (hI : gI D cy ad A s.heap σ H locs) (hL : (Cond.fieldLink own index "FestivalFieldsModel" "stands" "[Z") ∈ gG) (hdg : decode cc pc = .ok (.getfield index, 3)) (kk : W p l e R s m args below meth c H locs cells slots Q (F0 m (pc + 3) ls (.ref (ad 52) :: rest))) : W p l e R s m args below meth c H locs cells slots Q (F0 m pc ls (.ref (ad 10) :: rest)) := 
  va_get (D := D) (ci := 9) (v := .ref (ad 52)) (C := RX9) (T := TX9) (N := 47) hC.1 hC.2.1 hC.2.2.1 gin_X9 hC.2.2.2.1 hC.2.2.2.2.1 hI.1 10 rfl rfl 2 (by decide) (hC.2.2.1 _ hL) (fun _ h9 => h9) rfl hdg kk
theorem gg_X9_tents (hC : gC p c cc s m args own D cy ad A) (hI : gI D cy ad A s.heap σ H locs) (hL : (Cond.fieldLink own index "FestivalFieldsModel" "tents" "I") ∈ gG) (hdg : decode cc pc = .ok (.getfield index, 3)) (kk : W p l e R s m args below meth c H locs cells slots Q (F0 m (pc + 3) ls (.int (σ 66 0) :: rest))) : W p l e R s m args below meth c H locs cells slots Q (F0 m pc ls (.ref (ad 10) :: rest)) := 
  va_get (D := D) (ci := 9) (v := .int (σ 66 0)) (C := RX9) (T := TX9) (N := 47) hC.1 hC.2.1 hC.2.2.1 gin_X9 hC.2.2.2.1 hC.2.2.2.2.1 hI.1 10 rfl rfl 3 (by decide) (hC.2.2.1 _ hL) (fun _ h9 => h9) rfl hdg kk
theorem gp_X9_tents (hC : gC p c cc s m args own D cy ad A) (hI : gI D cy ad A s.heap σ H locs) {v : Int32} (hL : (Cond.fieldLink own index "FestivalFieldsModel" "tents" "I") ∈ gG) (hdg : decode cc pc = .ok (.putfield index, 3)) (kk : ∀ (σ1 : gS) (H1 : Heap) (locs1 : List Loc), σ1 = gu σ 66 0 v → gI D cy ad A s.heap σ1 H1 locs1 → W p l e R s m args below meth c H1 locs1 cells slots Q (F0 m (pc + 3) ls rest)) : W p l e R s m args below meth c H locs cells slots Q (F0 m pc ls (.int v :: .ref (ad 10) :: rest)) := 
  va_put (D := D) (ci := 9) (v := .int v) (ty := .int) (C := RX9) (T := TX9) (N := 47) hC.1 hC.2.1 hC.2.2.1 gin_X9 tyX9 tyX9_ok nmX9 hC.2.2.2.1 hC.2.2.2.2.1 hI.1 hI.2.1 hI.2.2 10 rfl rfl 3 (by decide) (hC.2.2.1 _ hL) (fun _ h9 => h9) rfl (by decide +kernel) rfl rfl (Nat.le_of_ble_eq_true rfl) hdg (fun H1 locs1 hP hD hS => kk _ H1 locs1 rfl ⟨hP, hD, hS⟩)
theorem gg_X9_gate (hC : gC p c cc s m args own D cy ad A) (hI : gI D cy ad A s.heap σ H locs) (hL : (Cond.fieldLink own index "FestivalFieldsModel" "gate" "I") ∈ gG) (hdg : decode cc pc = .ok (.getfield index, 3)) (kk : W p l e R s m args below meth c H locs cells slots Q (F0 m (pc + 3) ls (.int (σ 67 0) :: rest))) : W p l e R s m args below meth c H locs cells slots Q (F0 m pc ls (.ref (ad 10) :: rest)) := 
  va_get (D := D) (ci := 9) (v := .int (σ 67 0)) (C := RX9) (T := TX9) (N := 47) hC.1 hC.2.1 hC.2.2.1 gin_X9 hC.2.2.2.1 hC.2.2.2.2.1 hI.1 10 rfl rfl 4 (by decide) (hC.2.2.1 _ hL) (fun _ h9 => h9) rfl hdg kk
theorem gp_X9_gate (hC : gC p c cc s m args own D cy ad A) (hI : gI D cy ad A s.heap σ H locs) {v : Int32} (hL : (Cond.fieldLink own index "FestivalFieldsModel" "gate" "I") ∈ gG) (hdg : decode cc pc = .ok (.putfield index, 3)) (kk : ∀ (σ1 : gS) (H1 : Heap) (locs1 : List Loc), σ1 = gu σ 67 0 v → gI D cy ad A s.heap σ1 H1 locs1 → W p l e R s m args below meth c H1 locs1 cells slots Q (F0 m (pc + 3) ls rest)) : W p l e R s m args below meth c H locs cells slots Q (F0 m pc ls (.int v :: .ref (ad 10) :: rest)) := 
  va_put (D := D) (ci := 9) (v := .int v) (ty := .int) (C := RX9) (T := TX9) (N := 47) hC.1 hC.2.1 hC.2.2.1 gin_X9 tyX9 tyX9_ok nmX9 hC.2.2.2.1 hC.2.2.2.2.1 hI.1 hI.2.1 hI.2.2 10 rfl rfl 4 (by decide) (hC.2.2.1 _ hL) (fun _ h9 => h9) rfl (by decide +kernel) rfl rfl (Nat.le_of_ble_eq_true rfl) hdg (fun H1 locs1 hP hD hS => kk _ H1 locs1 rfl ⟨hP, hD, hS⟩)
theorem gg_X9_crowd (hC : gC p c cc s m args own D cy ad A) (hI : gI D cy ad A s.heap σ H locs) (hL : (Cond.fieldLink own index "FestivalFieldsModel" "crowd" "[I") ∈ gG) (hdg : decode cc pc = .ok (.getfield index, 3)) (kk : W p l e R s m args below meth c H locs cells slots Q (F0 m (pc + 3) ls (.ref (ad 53) :: rest))) : W p l e R s m args below meth c H locs cells slots Q (F0 m pc ls (.ref (ad 10) :: rest)) := 
  va_get (D := D) (ci := 9) (v := .ref (ad 53)) (C := RX9) (T := TX9) (N := 47) hC.1 hC.2.1 hC.2.2.1 gin_X9 hC.2.2.2.1 hC.2.2.2.2.1 hI.1 10 rfl rfl 5 (by decide) (hC.2.2.1 _ hL) (fun _ h9 => h9) rfl hdg kk
theorem gg_X9_rate (hC : gC p c cc s m args own D cy ad A) (hI : gI D cy ad A s.heap σ H locs) (hL : (Cond.fieldLink own index "FestivalFieldsModel" "rate" "[I") ∈ gG) (hdg : decode cc pc = .ok (.getfield index, 3)) (kk : W p l e R s m args below meth c H locs cells slots Q (F0 m (pc + 3) ls (.ref (ad 54) :: rest))) : W p l e R s m args below meth c H locs cells slots Q (F0 m pc ls (.ref (ad 10) :: rest)) := 
  va_get (D := D) (ci := 9) (v := .ref (ad 54)) (C := RX9) (T := TX9) (N := 47) hC.1 hC.2.1 hC.2.2.1 gin_X9 hC.2.2.2.1 hC.2.2.2.2.1 hI.1 10 rfl rfl 6 (by decide) (hC.2.2.1 _ hL) (fun _ h9 => h9) rfl hdg kk
theorem gg_X9_isShut (hC : gC p c cc s m args own D cy ad A) (hI : gI D cy ad A s.heap σ H locs) (hL : (Cond.fieldLink own index "FestivalFieldsModel" "isShut" "[Z") ∈ gG) (hdg : decode cc pc = .ok (.getfield index, 3)) (kk : W p l e R s m args below meth c H locs cells slots Q (F0 m (pc + 3) ls (.ref (ad 55) :: rest))) : W p l e R s m args below meth c H locs cells slots Q (F0 m pc ls (.ref (ad 10) :: rest)) := 
  va_get (D := D) (ci := 9) (v := .ref (ad 55)) (C := RX9) (T := TX9) (N := 47) hC.1 hC.2.1 hC.2.2.1 gin_X9 hC.2.2.2.1 hC.2.2.2.2.1 hI.1 10 rfl rfl 7 (by decide) (hC.2.2.1 _ hL) (fun _ h9 => h9) rfl hdg kk
theorem gg_X9_places (hC : gC p c cc s m args own D cy ad A) (hI : gI D cy ad A s.heap σ H locs) (hL : (Cond.fieldLink own index "FestivalFieldsModel" "places" "I") ∈ gG) (hdg : decode cc pc = .ok (.getfield index, 3)) (kk : W p l e R s m args below meth c H locs cells slots Q (F0 m (pc + 3) ls (.int (σ 71 0) :: rest))) : W p l e R s m args below meth c H locs cells slots Q (F0 m pc ls (.ref (ad 10) :: rest)) := 
  va_get (D := D) (ci := 9) (v := .int (σ 71 0)) (C := RX9) (T := TX9) (N := 47) hC.1 hC.2.1 hC.2.2.1 gin_X9 hC.2.2.2.1 hC.2.2.2.2.1 hI.1 10 rfl rfl 8 (by decide) (hC.2.2.1 _ hL) (fun _ h9 => h9) rfl hdg kk
theorem gp_X9_places (hC : gC p c cc s m args own D cy ad A) (hI : gI D cy ad A s.heap σ H locs) {v : Int32} (hL : (Cond.fieldLink own index "FestivalFieldsModel" "places" "I") ∈ gG) (hdg : decode cc pc = .ok (.putfield index, 3)) (kk : ∀ (σ1 : gS) (H1 : Heap) (locs1 : List Loc), σ1 = gu σ 71 0 v → gI D cy ad A s.heap σ1 H1 locs1 → W p l e R s m args below meth c H1 locs1 cells slots Q (F0 m (pc + 3) ls rest)) : W p l e R s m args below meth c H locs cells slots Q (F0 m pc ls (.int v :: .ref (ad 10) :: rest)) := 
  va_put (D := D) (ci := 9) (v := .int v) (ty := .int) (C := RX9) (T := TX9) (N := 47) hC.1 hC.2.1 hC.2.2.1 gin_X9 tyX9 tyX9_ok nmX9 hC.2.2.2.1 hC.2.2.2.2.1 hI.1 hI.2.1 hI.2.2 10 rfl rfl 8 (by decide) (hC.2.2.1 _ hL) (fun _ h9 => h9) rfl (by decide +kernel) rfl rfl (Nat.le_of_ble_eq_true rfl) hdg (fun H1 locs1 hP hD hS => kk _ H1 locs1 rfl ⟨hP, hD, hS⟩)
theorem gg_X9_from (hC : gC p c cc s m args own D cy ad A) (hI : gI D cy ad A s.heap σ H locs) (hL : (Cond.fieldLink own index "FestivalFieldsModel" "from" "[I") ∈ gG) (hdg : decode cc pc = .ok (.getfield index, 3)) (kk : W p l e R s m args below meth c H locs cells slots Q (F0 m (pc + 3) ls (.ref (ad 56) :: rest))) : W p l e R s m args below meth c H locs cells slots Q (F0 m pc ls (.ref (ad 10) :: rest)) := 
  va_get (D := D) (ci := 9) (v := .ref (ad 56)) (C := RX9) (T := TX9) (N := 47) hC.1 hC.2.1 hC.2.2.1 gin_X9 hC.2.2.2.1 hC.2.2.2.2.1 hI.1 10 rfl rfl 9 (by decide) (hC.2.2.1 _ hL) (fun _ h9 => h9) rfl hdg kk
theorem gg_X9_to (hC : gC p c cc s m args own D cy ad A) (hI : gI D cy ad A s.heap σ H locs) (hL : (Cond.fieldLink own index "FestivalFieldsModel" "to" "[I") ∈ gG) (hdg : decode cc pc = .ok (.getfield index, 3)) (kk : W p l e R s m args below meth c H locs cells slots Q (F0 m (pc + 3) ls (.ref (ad 57) :: rest))) : W p l e R s m args below meth c H locs cells slots Q (F0 m pc ls (.ref (ad 10) :: rest)) := 
  va_get (D := D) (ci := 9) (v := .ref (ad 57)) (C := RX9) (T := TX9) (N := 47) hC.1 hC.2.1 hC.2.2.1 gin_X9 hC.2.2.2.1 hC.2.2.2.2.1 hI.1 10 rfl rfl 10 (by decide) (hC.2.2.1 _ hL) (fun _ h9 => h9) rfl hdg kk
theorem gg_X9_length (hC : gC p c cc s m args own D cy ad A) (hI : gI D cy ad A s.heap σ H locs) (hL : (Cond.fieldLink own index "FestivalFieldsModel" "length" "[I") ∈ gG) (hdg : decode cc pc = .ok (.getfield index, 3)) (kk : W p l e R s m args below meth c H locs cells slots Q (F0 m (pc + 3) ls (.ref (ad 58) :: rest))) : W p l e R s m args below meth c H locs cells slots Q (F0 m pc ls (.ref (ad 10) :: rest)) := 
  va_get (D := D) (ci := 9) (v := .ref (ad 58)) (C := RX9) (T := TX9) (N := 47) hC.1 hC.2.1 hC.2.2.1 gin_X9 hC.2.2.2.1 hC.2.2.2.2.1 hI.1 10 rfl rfl 11 (by decide) (hC.2.2.1 _ hL) (fun _ h9 => h9) rfl hdg kk
theorem gg_X9_wide (hC : gC p c cc s m args own D cy ad A) (hI : gI D cy ad A s.heap σ H locs) (hL : (Cond.fieldLink own index "FestivalFieldsModel" "wide" "[I") ∈ gG) (hdg : decode cc pc = .ok (.getfield index, 3)) (kk : W p l e R s m args below meth c H locs cells slots Q (F0 m (pc + 3) ls (.ref (ad 59) :: rest))) : W p l e R s m args below meth c H locs cells slots Q (F0 m pc ls (.ref (ad 10) :: rest)) := 
  va_get (D := D) (ci := 9) (v := .ref (ad 59)) (C := RX9) (T := TX9) (N := 47) hC.1 hC.2.1 hC.2.2.1 gin_X9 hC.2.2.2.1 hC.2.2.2.2.1 hI.1 10 rfl rfl 12 (by decide) (hC.2.2.1 _ hL) (fun _ h9 => h9) rfl hdg kk
theorem gg_X9_ways (hC : gC p c cc s m args own D cy ad A) (hI : gI D cy ad A s.heap σ H locs) (hL : (Cond.fieldLink own index "FestivalFieldsModel" "ways" "I") ∈ gG) (hdg : decode cc pc = .ok (.getfield index, 3)) (kk : W p l e R s m args below meth c H locs cells slots Q (F0 m (pc + 3) ls (.int (σ 76 0) :: rest))) : W p l e R s m args below meth c H locs cells slots Q (F0 m pc ls (.ref (ad 10) :: rest)) := 
  va_get (D := D) (ci := 9) (v := .int (σ 76 0)) (C := RX9) (T := TX9) (N := 47) hC.1 hC.2.1 hC.2.2.1 gin_X9 hC.2.2.2.1 hC.2.2.2.2.1 hI.1 10 rfl rfl 13 (by decide) (hC.2.2.1 _ hL) (fun _ h9 => h9) rfl hdg kk
theorem gp_X9_ways (hC : gC p c cc s m args own D cy ad A) (hI : gI D cy ad A s.heap σ H locs) {v : Int32} (hL : (Cond.fieldLink own index "FestivalFieldsModel" "ways" "I") ∈ gG) (hdg : decode cc pc = .ok (.putfield index, 3)) (kk : ∀ (σ1 : gS) (H1 : Heap) (locs1 : List Loc), σ1 = gu σ 76 0 v → gI D cy ad A s.heap σ1 H1 locs1 → W p l e R s m args below meth c H1 locs1 cells slots Q (F0 m (pc + 3) ls rest)) : W p l e R s m args below meth c H locs cells slots Q (F0 m pc ls (.int v :: .ref (ad 10) :: rest)) := 
  va_put (D := D) (ci := 9) (v := .int v) (ty := .int) (C := RX9) (T := TX9) (N := 47) hC.1 hC.2.1 hC.2.2.1 gin_X9 tyX9 tyX9_ok nmX9 hC.2.2.2.1 hC.2.2.2.2.1 hI.1 hI.2.1 hI.2.2 10 rfl rfl 13 (by decide) (hC.2.2.1 _ hL) (fun _ h9 => h9) rfl (by decide +kernel) rfl rfl (Nat.le_of_ble_eq_true rfl) hdg (fun H1 locs1 hP hD hS => kk _ H1 locs1 rfl ⟨hP, hD, hS⟩)
theorem gg_X9_waits (hC : gC p c cc s m args own D cy ad A) (hI : gI D cy ad A s.heap σ H locs) (hL : (Cond.fieldLink own index "FestivalFieldsModel" "waits" "[I") ∈ gG) (hdg : decode cc pc = .ok (.getfield index, 3)) (kk : W p l e R s m args below meth c H locs cells slots Q (F0 m (pc + 3) ls (.ref (ad 60) :: rest))) : W p l e R s m args below meth c H locs cells slots Q (F0 m pc ls (.ref (ad 10) :: rest)) := 
  va_get (D := D) (ci := 9) (v := .ref (ad 60)) (C := RX9) (T := TX9) (N := 47) hC.1 hC.2.1 hC.2.2.1 gin_X9 hC.2.2.2.1 hC.2.2.2.2.1 hI.1 10 rfl rfl 14 (by decide) (hC.2.2.1 _ hL) (fun _ h9 => h9) rfl hdg kk
theorem gg_X9_goes (hC : gC p c cc s m args own D cy ad A) (hI : gI D cy ad A s.heap σ H locs) (hL : (Cond.fieldLink own index "FestivalFieldsModel" "goes" "[I") ∈ gG) (hdg : decode cc pc = .ok (.getfield index, 3)) (kk : W p l e R s m args below meth c H locs cells slots Q (F0 m (pc + 3) ls (.ref (ad 61) :: rest))) : W p l e R s m args below meth c H locs cells slots Q (F0 m pc ls (.ref (ad 10) :: rest)) := 
  va_get (D := D) (ci := 9) (v := .ref (ad 61)) (C := RX9) (T := TX9) (N := 47) hC.1 hC.2.1 hC.2.2.1 gin_X9 hC.2.2.2.1 hC.2.2.2.2.1 hI.1 10 rfl rfl 15 (by decide) (hC.2.2.1 _ hL) (fun _ h9 => h9) rfl hdg kk
theorem gg_X9_outs (hC : gC p c cc s m args own D cy ad A) (hI : gI D cy ad A s.heap σ H locs) (hL : (Cond.fieldLink own index "FestivalFieldsModel" "outs" "[I") ∈ gG) (hdg : decode cc pc = .ok (.getfield index, 3)) (kk : W p l e R s m args below meth c H locs cells slots Q (F0 m (pc + 3) ls (.ref (ad 62) :: rest))) : W p l e R s m args below meth c H locs cells slots Q (F0 m pc ls (.ref (ad 10) :: rest)) := 
  va_get (D := D) (ci := 9) (v := .ref (ad 62)) (C := RX9) (T := TX9) (N := 47) hC.1 hC.2.1 hC.2.2.1 gin_X9 hC.2.2.2.1 hC.2.2.2.2.1 hI.1 10 rfl rfl 16 (by decide) (hC.2.2.1 _ hL) (fun _ h9 => h9) rfl hdg kk
theorem gg_X9_left (hC : gC p c cc s m args own D cy ad A) (hI : gI D cy ad A s.heap σ H locs) (hL : (Cond.fieldLink own index "FestivalFieldsModel" "left" "[I") ∈ gG) (hdg : decode cc pc = .ok (.getfield index, 3)) (kk : W p l e R s m args below meth c H locs cells slots Q (F0 m (pc + 3) ls (.ref (ad 63) :: rest))) : W p l e R s m args below meth c H locs cells slots Q (F0 m pc ls (.ref (ad 10) :: rest)) := 
  va_get (D := D) (ci := 9) (v := .ref (ad 63)) (C := RX9) (T := TX9) (N := 47) hC.1 hC.2.1 hC.2.2.1 gin_X9 hC.2.2.2.1 hC.2.2.2.2.1 hI.1 10 rfl rfl 17 (by decide) (hC.2.2.1 _ hL) (fun _ h9 => h9) rfl hdg kk
theorem gg_X9_cameFrom (hC : gC p c cc s m args own D cy ad A) (hI : gI D cy ad A s.heap σ H locs) (hL : (Cond.fieldLink own index "FestivalFieldsModel" "cameFrom" "[I") ∈ gG) (hdg : decode cc pc = .ok (.getfield index, 3)) (kk : W p l e R s m args below meth c H locs cells slots Q (F0 m (pc + 3) ls (.ref (ad 64) :: rest))) : W p l e R s m args below meth c H locs cells slots Q (F0 m pc ls (.ref (ad 10) :: rest)) := 
  va_get (D := D) (ci := 9) (v := .ref (ad 64)) (C := RX9) (T := TX9) (N := 47) hC.1 hC.2.1 hC.2.2.1 gin_X9 hC.2.2.2.1 hC.2.2.2.2.1 hI.1 10 rfl rfl 18 (by decide) (hC.2.2.1 _ hL) (fun _ h9 => h9) rfl hdg kk
theorem gg_X9_cameBy (hC : gC p c cc s m args own D cy ad A) (hI : gI D cy ad A s.heap σ H locs) (hL : (Cond.fieldLink own index "FestivalFieldsModel" "cameBy" "[I") ∈ gG) (hdg : decode cc pc = .ok (.getfield index, 3)) (kk : W p l e R s m args below meth c H locs cells slots Q (F0 m (pc + 3) ls (.ref (ad 65) :: rest))) : W p l e R s m args below meth c H locs cells slots Q (F0 m pc ls (.ref (ad 10) :: rest)) := 
  va_get (D := D) (ci := 9) (v := .ref (ad 65)) (C := RX9) (T := TX9) (N := 47) hC.1 hC.2.1 hC.2.2.1 gin_X9 hC.2.2.2.1 hC.2.2.2.2.1 hI.1 10 rfl rfl 19 (by decide) (hC.2.2.1 _ hL) (fun _ h9 => h9) rfl hdg kk
theorem gg_X9_isBack (hC : gC p c cc s m args own D cy ad A) (hI : gI D cy ad A s.heap σ H locs) (hL : (Cond.fieldLink own index "FestivalFieldsModel" "isBack" "[Z") ∈ gG) (hdg : decode cc pc = .ok (.getfield index, 3)) (kk : W p l e R s m args below meth c H locs cells slots Q (F0 m (pc + 3) ls (.ref (ad 66) :: rest))) : W p l e R s m args below meth c H locs cells slots Q (F0 m pc ls (.ref (ad 10) :: rest)) := 
  va_get (D := D) (ci := 9) (v := .ref (ad 66)) (C := RX9) (T := TX9) (N := 47) hC.1 hC.2.1 hC.2.2.1 gin_X9 hC.2.2.2.1 hC.2.2.2.2.1 hI.1 10 rfl rfl 20 (by decide) (hC.2.2.1 _ hL) (fun _ h9 => h9) rfl hdg kk
theorem gg_X9_isSeen (hC : gC p c cc s m args own D cy ad A) (hI : gI D cy ad A s.heap σ H locs) (hL : (Cond.fieldLink own index "FestivalFieldsModel" "isSeen" "[Z") ∈ gG) (hdg : decode cc pc = .ok (.getfield index, 3)) (kk : W p l e R s m args below meth c H locs cells slots Q (F0 m (pc + 3) ls (.ref (ad 67) :: rest))) : W p l e R s m args below meth c H locs cells slots Q (F0 m pc ls (.ref (ad 10) :: rest)) := 
  va_get (D := D) (ci := 9) (v := .ref (ad 67)) (C := RX9) (T := TX9) (N := 47) hC.1 hC.2.1 hC.2.2.1 gin_X9 hC.2.2.2.1 hC.2.2.2.2.1 hI.1 10 rfl rfl 21 (by decide) (hC.2.2.1 _ hL) (fun _ h9 => h9) rfl hdg kk
theorem gg_X9_queue (hC : gC p c cc s m args own D cy ad A) (hI : gI D cy ad A s.heap σ H locs) (hL : (Cond.fieldLink own index "FestivalFieldsModel" "queue" "[I") ∈ gG) (hdg : decode cc pc = .ok (.getfield index, 3)) (kk : W p l e R s m args below meth c H locs cells slots Q (F0 m (pc + 3) ls (.ref (ad 68) :: rest))) : W p l e R s m args below meth c H locs cells slots Q (F0 m pc ls (.ref (ad 10) :: rest)) := 
  va_get (D := D) (ci := 9) (v := .ref (ad 68)) (C := RX9) (T := TX9) (N := 47) hC.1 hC.2.1 hC.2.2.1 gin_X9 hC.2.2.2.1 hC.2.2.2.2.1 hI.1 10 rfl rfl 22 (by decide) (hC.2.2.1 _ hL) (fun _ h9 => h9) rfl hdg kk
theorem gg_X9_queued (hC : gC p c cc s m args own D cy ad A) (hI : gI D cy ad A s.heap σ H locs) (hL : (Cond.fieldLink own index "FestivalFieldsModel" "queued" "I") ∈ gG) (hdg : decode cc pc = .ok (.getfield index, 3)) (kk : W p l e R s m args below meth c H locs cells slots Q (F0 m (pc + 3) ls (.int (σ 86 0) :: rest))) : W p l e R s m args below meth c H locs cells slots Q (F0 m pc ls (.ref (ad 10) :: rest)) := 
  va_get (D := D) (ci := 9) (v := .int (σ 86 0)) (C := RX9) (T := TX9) (N := 47) hC.1 hC.2.1 hC.2.2.1 gin_X9 hC.2.2.2.1 hC.2.2.2.2.1 hI.1 10 rfl rfl 23 (by decide) (hC.2.2.1 _ hL) (fun _ h9 => h9) rfl hdg kk
theorem gp_X9_queued (hC : gC p c cc s m args own D cy ad A) (hI : gI D cy ad A s.heap σ H locs) {v : Int32} (hL : (Cond.fieldLink own index "FestivalFieldsModel" "queued" "I") ∈ gG) (hdg : decode cc pc = .ok (.putfield index, 3)) (kk : ∀ (σ1 : gS) (H1 : Heap) (locs1 : List Loc), σ1 = gu σ 86 0 v → gI D cy ad A s.heap σ1 H1 locs1 → W p l e R s m args below meth c H1 locs1 cells slots Q (F0 m (pc + 3) ls rest)) : W p l e R s m args below meth c H locs cells slots Q (F0 m pc ls (.int v :: .ref (ad 10) :: rest)) := 
  va_put (D := D) (ci := 9) (v := .int v) (ty := .int) (C := RX9) (T := TX9) (N := 47) hC.1 hC.2.1 hC.2.2.1 gin_X9 tyX9 tyX9_ok nmX9 hC.2.2.2.1 hC.2.2.2.2.1 hI.1 hI.2.1 hI.2.2 10 rfl rfl 23 (by decide) (hC.2.2.1 _ hL) (fun _ h9 => h9) rfl (by decide +kernel) rfl rfl (Nat.le_of_ble_eq_true rfl) hdg (fun H1 locs1 hP hD hS => kk _ H1 locs1 rfl ⟨hP, hD, hS⟩)
theorem gg_X9_actWay (hC : gC p c cc s m args own D cy ad A) (hI : gI D cy ad A s.heap σ H locs) (hL : (Cond.fieldLink own index "FestivalFieldsModel" "actWay" "[I") ∈ gG) (hdg : decode cc pc = .ok (.getfield index, 3)) (kk : W p l e R s m args below meth c H locs cells slots Q (F0 m (pc + 3) ls (.ref (ad 69) :: rest))) : W p l e R s m args below meth c H locs cells slots Q (F0 m pc ls (.ref (ad 10) :: rest)) := 
  va_get (D := D) (ci := 9) (v := .ref (ad 69)) (C := RX9) (T := TX9) (N := 47) hC.1 hC.2.1 hC.2.2.1 gin_X9 hC.2.2.2.1 hC.2.2.2.2.1 hI.1 10 rfl rfl 24 (by decide) (hC.2.2.1 _ hL) (fun _ h9 => h9) rfl hdg kk
theorem gg_X9_ends (hC : gC p c cc s m args own D cy ad A) (hI : gI D cy ad A s.heap σ H locs) (hL : (Cond.fieldLink own index "FestivalFieldsModel" "ends" "[I") ∈ gG) (hdg : decode cc pc = .ok (.getfield index, 3)) (kk : W p l e R s m args below meth c H locs cells slots Q (F0 m (pc + 3) ls (.ref (ad 70) :: rest))) : W p l e R s m args below meth c H locs cells slots Q (F0 m pc ls (.ref (ad 10) :: rest)) := 
  va_get (D := D) (ci := 9) (v := .ref (ad 70)) (C := RX9) (T := TX9) (N := 47) hC.1 hC.2.1 hC.2.2.1 gin_X9 hC.2.2.2.1 hC.2.2.2.2.1 hI.1 10 rfl rfl 25 (by decide) (hC.2.2.1 _ hL) (fun _ h9 => h9) rfl hdg kk
theorem gg_X9_people (hC : gC p c cc s m args own D cy ad A) (hI : gI D cy ad A s.heap σ H locs) (hL : (Cond.fieldLink own index "FestivalFieldsModel" "people" "[I") ∈ gG) (hdg : decode cc pc = .ok (.getfield index, 3)) (kk : W p l e R s m args below meth c H locs cells slots Q (F0 m (pc + 3) ls (.ref (ad 71) :: rest))) : W p l e R s m args below meth c H locs cells slots Q (F0 m pc ls (.ref (ad 10) :: rest)) := 
  va_get (D := D) (ci := 9) (v := .ref (ad 71)) (C := RX9) (T := TX9) (N := 47) hC.1 hC.2.1 hC.2.2.1 gin_X9 hC.2.2.2.1 hC.2.2.2.2.1 hI.1 10 rfl rfl 26 (by decide) (hC.2.2.1 _ hL) (fun _ h9 => h9) rfl hdg kk
theorem gg_X9_acts (hC : gC p c cc s m args own D cy ad A) (hI : gI D cy ad A s.heap σ H locs) (hL : (Cond.fieldLink own index "FestivalFieldsModel" "acts" "I") ∈ gG) (hdg : decode cc pc = .ok (.getfield index, 3)) (kk : W p l e R s m args below meth c H locs cells slots Q (F0 m (pc + 3) ls (.int (σ 90 0) :: rest))) : W p l e R s m args below meth c H locs cells slots Q (F0 m pc ls (.ref (ad 10) :: rest)) := 
  va_get (D := D) (ci := 9) (v := .int (σ 90 0)) (C := RX9) (T := TX9) (N := 47) hC.1 hC.2.1 hC.2.2.1 gin_X9 hC.2.2.2.1 hC.2.2.2.2.1 hI.1 10 rfl rfl 27 (by decide) (hC.2.2.1 _ hL) (fun _ h9 => h9) rfl hdg kk
theorem gp_X9_acts (hC : gC p c cc s m args own D cy ad A) (hI : gI D cy ad A s.heap σ H locs) {v : Int32} (hL : (Cond.fieldLink own index "FestivalFieldsModel" "acts" "I") ∈ gG) (hdg : decode cc pc = .ok (.putfield index, 3)) (kk : ∀ (σ1 : gS) (H1 : Heap) (locs1 : List Loc), σ1 = gu σ 90 0 v → gI D cy ad A s.heap σ1 H1 locs1 → W p l e R s m args below meth c H1 locs1 cells slots Q (F0 m (pc + 3) ls rest)) : W p l e R s m args below meth c H locs cells slots Q (F0 m pc ls (.int v :: .ref (ad 10) :: rest)) := 
  va_put (D := D) (ci := 9) (v := .int v) (ty := .int) (C := RX9) (T := TX9) (N := 47) hC.1 hC.2.1 hC.2.2.1 gin_X9 tyX9 tyX9_ok nmX9 hC.2.2.2.1 hC.2.2.2.2.1 hI.1 hI.2.1 hI.2.2 10 rfl rfl 27 (by decide) (hC.2.2.1 _ hL) (fun _ h9 => h9) rfl (by decide +kernel) rfl rfl (Nat.le_of_ble_eq_true rfl) hdg (fun H1 locs1 hP hD hS => kk _ H1 locs1 rfl ⟨hP, hD, hS⟩)
theorem gg_X9_shift (hC : gC p c cc s m args own D cy ad A) (hI : gI D cy ad A s.heap σ H locs) (hL : (Cond.fieldLink own index "FestivalFieldsModel" "shift" "[I") ∈ gG) (hdg : decode cc pc = .ok (.getfield index, 3)) (kk : W p l e R s m args below meth c H locs cells slots Q (F0 m (pc + 3) ls (.ref (ad 72) :: rest))) : W p l e R s m args below meth c H locs cells slots Q (F0 m pc ls (.ref (ad 10) :: rest)) := 
  va_get (D := D) (ci := 9) (v := .ref (ad 72)) (C := RX9) (T := TX9) (N := 47) hC.1 hC.2.1 hC.2.2.1 gin_X9 hC.2.2.2.1 hC.2.2.2.2.1 hI.1 10 rfl rfl 28 (by decide) (hC.2.2.1 _ hL) (fun _ h9 => h9) rfl hdg kk
theorem gg_X9_best (hC : gC p c cc s m args own D cy ad A) (hI : gI D cy ad A s.heap σ H locs) (hL : (Cond.fieldLink own index "FestivalFieldsModel" "best" "[I") ∈ gG) (hdg : decode cc pc = .ok (.getfield index, 3)) (kk : W p l e R s m args below meth c H locs cells slots Q (F0 m (pc + 3) ls (.ref (ad 73) :: rest))) : W p l e R s m args below meth c H locs cells slots Q (F0 m pc ls (.ref (ad 10) :: rest)) := 
  va_get (D := D) (ci := 9) (v := .ref (ad 73)) (C := RX9) (T := TX9) (N := 47) hC.1 hC.2.1 hC.2.2.1 gin_X9 hC.2.2.2.1 hC.2.2.2.2.1 hI.1 10 rfl rfl 29 (by decide) (hC.2.2.1 _ hL) (fun _ h9 => h9) rfl hdg kk
theorem gg_X9_now (hC : gC p c cc s m args own D cy ad A) (hI : gI D cy ad A s.heap σ H locs) (hL : (Cond.fieldLink own index "FestivalFieldsModel" "now" "I") ∈ gG) (hdg : decode cc pc = .ok (.getfield index, 3)) (kk : W p l e R s m args below meth c H locs cells slots Q (F0 m (pc + 3) ls (.int (σ 93 0) :: rest))) : W p l e R s m args below meth c H locs cells slots Q (F0 m pc ls (.ref (ad 10) :: rest)) := 
  va_get (D := D) (ci := 9) (v := .int (σ 93 0)) (C := RX9) (T := TX9) (N := 47) hC.1 hC.2.1 hC.2.2.1 gin_X9 hC.2.2.2.1 hC.2.2.2.2.1 hI.1 10 rfl rfl 30 (by decide) (hC.2.2.1 _ hL) (fun _ h9 => h9) rfl hdg kk
theorem gp_X9_now (hC : gC p c cc s m args own D cy ad A) (hI : gI D cy ad A s.heap σ H locs) {v : Int32} (hL : (Cond.fieldLink own index "FestivalFieldsModel" "now" "I") ∈ gG) (hdg : decode cc pc = .ok (.putfield index, 3)) (kk : ∀ (σ1 : gS) (H1 : Heap) (locs1 : List Loc), σ1 = gu σ 93 0 v → gI D cy ad A s.heap σ1 H1 locs1 → W p l e R s m args below meth c H1 locs1 cells slots Q (F0 m (pc + 3) ls rest)) : W p l e R s m args below meth c H locs cells slots Q (F0 m pc ls (.int v :: .ref (ad 10) :: rest)) := 
  va_put (D := D) (ci := 9) (v := .int v) (ty := .int) (C := RX9) (T := TX9) (N := 47) hC.1 hC.2.1 hC.2.2.1 gin_X9 tyX9 tyX9_ok nmX9 hC.2.2.2.1 hC.2.2.2.2.1 hI.1 hI.2.1 hI.2.2 10 rfl rfl 30 (by decide) (hC.2.2.1 _ hL) (fun _ h9 => h9) rfl (by decide +kernel) rfl rfl (Nat.le_of_ble_eq_true rfl) hdg (fun H1 locs1 hP hD hS => kk _ H1 locs1 rfl ⟨hP, hD, hS⟩)
theorem gg_X9_pBand (hC : gC p c cc s m args own D cy ad A) (hI : gI D cy ad A s.heap σ H locs) (hL : (Cond.fieldLink own index "FestivalFieldsModel" "pBand" "[I") ∈ gG) (hdg : decode cc pc = .ok (.getfield index, 3)) (kk : W p l e R s m args below meth c H locs cells slots Q (F0 m (pc + 3) ls (.ref (ad 74) :: rest))) : W p l e R s m args below meth c H locs cells slots Q (F0 m pc ls (.ref (ad 10) :: rest)) := 
  va_get (D := D) (ci := 9) (v := .ref (ad 74)) (C := RX9) (T := TX9) (N := 47) hC.1 hC.2.1 hC.2.2.1 gin_X9 hC.2.2.2.1 hC.2.2.2.2.1 hI.1 10 rfl rfl 31 (by decide) (hC.2.2.1 _ hL) (fun _ h9 => h9) rfl hdg kk
theorem gg_X9_pIn (hC : gC p c cc s m args own D cy ad A) (hI : gI D cy ad A s.heap σ H locs) (hL : (Cond.fieldLink own index "FestivalFieldsModel" "pIn" "[Z") ∈ gG) (hdg : decode cc pc = .ok (.getfield index, 3)) (kk : W p l e R s m args below meth c H locs cells slots Q (F0 m (pc + 3) ls (.ref (ad 75) :: rest))) : W p l e R s m args below meth c H locs cells slots Q (F0 m pc ls (.ref (ad 10) :: rest)) := 
  va_get (D := D) (ci := 9) (v := .ref (ad 75)) (C := RX9) (T := TX9) (N := 47) hC.1 hC.2.1 hC.2.2.1 gin_X9 hC.2.2.2.1 hC.2.2.2.2.1 hI.1 10 rfl rfl 32 (by decide) (hC.2.2.1 _ hL) (fun _ h9 => h9) rfl hdg kk
theorem gg_X9_pMinute (hC : gC p c cc s m args own D cy ad A) (hI : gI D cy ad A s.heap σ H locs) (hL : (Cond.fieldLink own index "FestivalFieldsModel" "pMinute" "[I") ∈ gG) (hdg : decode cc pc = .ok (.getfield index, 3)) (kk : W p l e R s m args below meth c H locs cells slots Q (F0 m (pc + 3) ls (.ref (ad 76) :: rest))) : W p l e R s m args below meth c H locs cells slots Q (F0 m pc ls (.ref (ad 10) :: rest)) := 
  va_get (D := D) (ci := 9) (v := .ref (ad 76)) (C := RX9) (T := TX9) (N := 47) hC.1 hC.2.1 hC.2.2.1 gin_X9 hC.2.2.2.1 hC.2.2.2.2.1 hI.1 10 rfl rfl 33 (by decide) (hC.2.2.1 _ hL) (fun _ h9 => h9) rfl hdg kk
theorem gg_X9_pTold (hC : gC p c cc s m args own D cy ad A) (hI : gI D cy ad A s.heap σ H locs) (hL : (Cond.fieldLink own index "FestivalFieldsModel" "pTold" "[I") ∈ gG) (hdg : decode cc pc = .ok (.getfield index, 3)) (kk : W p l e R s m args below meth c H locs cells slots Q (F0 m (pc + 3) ls (.ref (ad 77) :: rest))) : W p l e R s m args below meth c H locs cells slots Q (F0 m pc ls (.ref (ad 10) :: rest)) := 
  va_get (D := D) (ci := 9) (v := .ref (ad 77)) (C := RX9) (T := TX9) (N := 47) hC.1 hC.2.1 hC.2.2.1 gin_X9 hC.2.2.2.1 hC.2.2.2.2.1 hI.1 10 rfl rfl 34 (by decide) (hC.2.2.1 _ hL) (fun _ h9 => h9) rfl hdg kk
theorem gg_X9_passes (hC : gC p c cc s m args own D cy ad A) (hI : gI D cy ad A s.heap σ H locs) (hL : (Cond.fieldLink own index "FestivalFieldsModel" "passes" "I") ∈ gG) (hdg : decode cc pc = .ok (.getfield index, 3)) (kk : W p l e R s m args below meth c H locs cells slots Q (F0 m (pc + 3) ls (.int (σ 98 0) :: rest))) : W p l e R s m args below meth c H locs cells slots Q (F0 m pc ls (.ref (ad 10) :: rest)) := 
  va_get (D := D) (ci := 9) (v := .int (σ 98 0)) (C := RX9) (T := TX9) (N := 47) hC.1 hC.2.1 hC.2.2.1 gin_X9 hC.2.2.2.1 hC.2.2.2.2.1 hI.1 10 rfl rfl 35 (by decide) (hC.2.2.1 _ hL) (fun _ h9 => h9) rfl hdg kk
theorem gp_X9_passes (hC : gC p c cc s m args own D cy ad A) (hI : gI D cy ad A s.heap σ H locs) {v : Int32} (hL : (Cond.fieldLink own index "FestivalFieldsModel" "passes" "I") ∈ gG) (hdg : decode cc pc = .ok (.putfield index, 3)) (kk : ∀ (σ1 : gS) (H1 : Heap) (locs1 : List Loc), σ1 = gu σ 98 0 v → gI D cy ad A s.heap σ1 H1 locs1 → W p l e R s m args below meth c H1 locs1 cells slots Q (F0 m (pc + 3) ls rest)) : W p l e R s m args below meth c H locs cells slots Q (F0 m pc ls (.int v :: .ref (ad 10) :: rest)) := 
  va_put (D := D) (ci := 9) (v := .int v) (ty := .int) (C := RX9) (T := TX9) (N := 47) hC.1 hC.2.1 hC.2.2.1 gin_X9 tyX9 tyX9_ok nmX9 hC.2.2.2.1 hC.2.2.2.2.1 hI.1 hI.2.1 hI.2.2 10 rfl rfl 35 (by decide) (hC.2.2.1 _ hL) (fun _ h9 => h9) rfl (by decide +kernel) rfl rfl (Nat.le_of_ble_eq_true rfl) hdg (fun H1 locs1 hP hD hS => kk _ H1 locs1 rfl ⟨hP, hD, hS⟩)
theorem gg_X9_term (hC : gC p c cc s m args own D cy ad A) (hI : gI D cy ad A s.heap σ H locs) (hL : (Cond.fieldLink own index "FestivalFieldsModel" "term" "[I") ∈ gG) (hdg : decode cc pc = .ok (.getfield index, 3)) (kk : W p l e R s m args below meth c H locs cells slots Q (F0 m (pc + 3) ls (.ref (ad 78) :: rest))) : W p l e R s m args below meth c H locs cells slots Q (F0 m pc ls (.ref (ad 10) :: rest)) := 
  va_get (D := D) (ci := 9) (v := .ref (ad 78)) (C := RX9) (T := TX9) (N := 47) hC.1 hC.2.1 hC.2.2.1 gin_X9 hC.2.2.2.1 hC.2.2.2.2.1 hI.1 10 rfl rfl 36 (by decide) (hC.2.2.1 _ hL) (fun _ h9 => h9) rfl hdg kk
theorem gg_X9_draft (hC : gC p c cc s m args own D cy ad A) (hI : gI D cy ad A s.heap σ H locs) (hL : (Cond.fieldLink own index "FestivalFieldsModel" "draft" "[I") ∈ gG) (hdg : decode cc pc = .ok (.getfield index, 3)) (kk : W p l e R s m args below meth c H locs cells slots Q (F0 m (pc + 3) ls (.ref (ad 79) :: rest))) : W p l e R s m args below meth c H locs cells slots Q (F0 m pc ls (.ref (ad 10) :: rest)) := 
  va_get (D := D) (ci := 9) (v := .ref (ad 79)) (C := RX9) (T := TX9) (N := 47) hC.1 hC.2.1 hC.2.2.1 gin_X9 hC.2.2.2.1 hC.2.2.2.2.1 hI.1 10 rfl rfl 37 (by decide) (hC.2.2.1 _ hL) (fun _ h9 => h9) rfl hdg kk
theorem gg_X9_terms (hC : gC p c cc s m args own D cy ad A) (hI : gI D cy ad A s.heap σ H locs) (hL : (Cond.fieldLink own index "FestivalFieldsModel" "terms" "I") ∈ gG) (hdg : decode cc pc = .ok (.getfield index, 3)) (kk : W p l e R s m args below meth c H locs cells slots Q (F0 m (pc + 3) ls (.int (σ 101 0) :: rest))) : W p l e R s m args below meth c H locs cells slots Q (F0 m pc ls (.ref (ad 10) :: rest)) := 
  va_get (D := D) (ci := 9) (v := .int (σ 101 0)) (C := RX9) (T := TX9) (N := 47) hC.1 hC.2.1 hC.2.2.1 gin_X9 hC.2.2.2.1 hC.2.2.2.2.1 hI.1 10 rfl rfl 38 (by decide) (hC.2.2.1 _ hL) (fun _ h9 => h9) rfl hdg kk
theorem gp_X9_terms (hC : gC p c cc s m args own D cy ad A) (hI : gI D cy ad A s.heap σ H locs) {v : Int32} (hL : (Cond.fieldLink own index "FestivalFieldsModel" "terms" "I") ∈ gG) (hdg : decode cc pc = .ok (.putfield index, 3)) (kk : ∀ (σ1 : gS) (H1 : Heap) (locs1 : List Loc), σ1 = gu σ 101 0 v → gI D cy ad A s.heap σ1 H1 locs1 → W p l e R s m args below meth c H1 locs1 cells slots Q (F0 m (pc + 3) ls rest)) : W p l e R s m args below meth c H locs cells slots Q (F0 m pc ls (.int v :: .ref (ad 10) :: rest)) := 
  va_put (D := D) (ci := 9) (v := .int v) (ty := .int) (C := RX9) (T := TX9) (N := 47) hC.1 hC.2.1 hC.2.2.1 gin_X9 tyX9 tyX9_ok nmX9 hC.2.2.2.1 hC.2.2.2.2.1 hI.1 hI.2.1 hI.2.2 10 rfl rfl 38 (by decide) (hC.2.2.1 _ hL) (fun _ h9 => h9) rfl (by decide +kernel) rfl rfl (Nat.le_of_ble_eq_true rfl) hdg (fun H1 locs1 hP hD hS => kk _ H1 locs1 rfl ⟨hP, hD, hS⟩)
theorem gg_X9_noise (hC : gC p c cc s m args own D cy ad A) (hI : gI D cy ad A s.heap σ H locs) (hL : (Cond.fieldLink own index "FestivalFieldsModel" "noise" "[I") ∈ gG) (hdg : decode cc pc = .ok (.getfield index, 3)) (kk : W p l e R s m args below meth c H locs cells slots Q (F0 m (pc + 3) ls (.ref (ad 80) :: rest))) : W p l e R s m args below meth c H locs cells slots Q (F0 m pc ls (.ref (ad 10) :: rest)) := 
  va_get (D := D) (ci := 9) (v := .ref (ad 80)) (C := RX9) (T := TX9) (N := 47) hC.1 hC.2.1 hC.2.2.1 gin_X9 hC.2.2.2.1 hC.2.2.2.2.1 hI.1 10 rfl rfl 39 (by decide) (hC.2.2.1 _ hL) (fun _ h9 => h9) rfl hdg kk
theorem gg_X9_tape (hC : gC p c cc s m args own D cy ad A) (hI : gI D cy ad A s.heap σ H locs) (hL : (Cond.fieldLink own index "FestivalFieldsModel" "tape" "[B") ∈ gG) (hdg : decode cc pc = .ok (.getfield index, 3)) (kk : W p l e R s m args below meth c H locs cells slots Q (F0 m (pc + 3) ls (.ref (ad 81) :: rest))) : W p l e R s m args below meth c H locs cells slots Q (F0 m pc ls (.ref (ad 10) :: rest)) := 
  va_get (D := D) (ci := 9) (v := .ref (ad 81)) (C := RX9) (T := TX9) (N := 47) hC.1 hC.2.1 hC.2.2.1 gin_X9 hC.2.2.2.1 hC.2.2.2.2.1 hI.1 10 rfl rfl 40 (by decide) (hC.2.2.1 _ hL) (fun _ h9 => h9) rfl hdg kk
theorem gg_X9_taped (hC : gC p c cc s m args own D cy ad A) (hI : gI D cy ad A s.heap σ H locs) (hL : (Cond.fieldLink own index "FestivalFieldsModel" "taped" "I") ∈ gG) (hdg : decode cc pc = .ok (.getfield index, 3)) (kk : W p l e R s m args below meth c H locs cells slots Q (F0 m (pc + 3) ls (.int (σ 104 0) :: rest))) : W p l e R s m args below meth c H locs cells slots Q (F0 m pc ls (.ref (ad 10) :: rest)) := 
  va_get (D := D) (ci := 9) (v := .int (σ 104 0)) (C := RX9) (T := TX9) (N := 47) hC.1 hC.2.1 hC.2.2.1 gin_X9 hC.2.2.2.1 hC.2.2.2.2.1 hI.1 10 rfl rfl 41 (by decide) (hC.2.2.1 _ hL) (fun _ h9 => h9) rfl hdg kk
theorem gp_X9_taped (hC : gC p c cc s m args own D cy ad A) (hI : gI D cy ad A s.heap σ H locs) {v : Int32} (hL : (Cond.fieldLink own index "FestivalFieldsModel" "taped" "I") ∈ gG) (hdg : decode cc pc = .ok (.putfield index, 3)) (kk : ∀ (σ1 : gS) (H1 : Heap) (locs1 : List Loc), σ1 = gu σ 104 0 v → gI D cy ad A s.heap σ1 H1 locs1 → W p l e R s m args below meth c H1 locs1 cells slots Q (F0 m (pc + 3) ls rest)) : W p l e R s m args below meth c H locs cells slots Q (F0 m pc ls (.int v :: .ref (ad 10) :: rest)) := 
  va_put (D := D) (ci := 9) (v := .int v) (ty := .int) (C := RX9) (T := TX9) (N := 47) hC.1 hC.2.1 hC.2.2.1 gin_X9 tyX9 tyX9_ok nmX9 hC.2.2.2.1 hC.2.2.2.2.1 hI.1 hI.2.1 hI.2.2 10 rfl rfl 41 (by decide) (hC.2.2.1 _ hL) (fun _ h9 => h9) rfl (by decide +kernel) rfl rfl (Nat.le_of_ble_eq_true rfl) hdg (fun H1 locs1 hP hD hS => kk _ H1 locs1 rfl ⟨hP, hD, hS⟩)
theorem gg_X9_point (hC : gC p c cc s m args own D cy ad A) (hI : gI D cy ad A s.heap σ H locs) (hL : (Cond.fieldLink own index "FestivalFieldsModel" "point" "I") ∈ gG) (hdg : decode cc pc = .ok (.getfield index, 3)) (kk : W p l e R s m args below meth c H locs cells slots Q (F0 m (pc + 3) ls (.int (σ 105 0) :: rest))) : W p l e R s m args below meth c H locs cells slots Q (F0 m pc ls (.ref (ad 10) :: rest)) := 
  va_get (D := D) (ci := 9) (v := .int (σ 105 0)) (C := RX9) (T := TX9) (N := 47) hC.1 hC.2.1 hC.2.2.1 gin_X9 hC.2.2.2.1 hC.2.2.2.2.1 hI.1 10 rfl rfl 42 (by decide) (hC.2.2.1 _ hL) (fun _ h9 => h9) rfl hdg kk
theorem gp_X9_point (hC : gC p c cc s m args own D cy ad A) (hI : gI D cy ad A s.heap σ H locs) {v : Int32} (hL : (Cond.fieldLink own index "FestivalFieldsModel" "point" "I") ∈ gG) (hdg : decode cc pc = .ok (.putfield index, 3)) (kk : ∀ (σ1 : gS) (H1 : Heap) (locs1 : List Loc), σ1 = gu σ 105 0 v → gI D cy ad A s.heap σ1 H1 locs1 → W p l e R s m args below meth c H1 locs1 cells slots Q (F0 m (pc + 3) ls rest)) : W p l e R s m args below meth c H locs cells slots Q (F0 m pc ls (.int v :: .ref (ad 10) :: rest)) := 
  va_put (D := D) (ci := 9) (v := .int v) (ty := .int) (C := RX9) (T := TX9) (N := 47) hC.1 hC.2.1 hC.2.2.1 gin_X9 tyX9 tyX9_ok nmX9 hC.2.2.2.1 hC.2.2.2.2.1 hI.1 hI.2.1 hI.2.2 10 rfl rfl 42 (by decide) (hC.2.2.1 _ hL) (fun _ h9 => h9) rfl (by decide +kernel) rfl rfl (Nat.le_of_ble_eq_true rfl) hdg (fun H1 locs1 hP hD hS => kk _ H1 locs1 rfl ⟨hP, hD, hS⟩)
theorem gg_X9_end (hC : gC p c cc s m args own D cy ad A) (hI : gI D cy ad A s.heap σ H locs) (hL : (Cond.fieldLink own index "FestivalFieldsModel" "end" "I") ∈ gG) (hdg : decode cc pc = .ok (.getfield index, 3)) (kk : W p l e R s m args below meth c H locs cells slots Q (F0 m (pc + 3) ls (.int (σ 106 0) :: rest))) : W p l e R s m args below meth c H locs cells slots Q (F0 m pc ls (.ref (ad 10) :: rest)) := 
  va_get (D := D) (ci := 9) (v := .int (σ 106 0)) (C := RX9) (T := TX9) (N := 47) hC.1 hC.2.1 hC.2.2.1 gin_X9 hC.2.2.2.1 hC.2.2.2.2.1 hI.1 10 rfl rfl 43 (by decide) (hC.2.2.1 _ hL) (fun _ h9 => h9) rfl hdg kk
theorem gp_X9_end (hC : gC p c cc s m args own D cy ad A) (hI : gI D cy ad A s.heap σ H locs) {v : Int32} (hL : (Cond.fieldLink own index "FestivalFieldsModel" "end" "I") ∈ gG) (hdg : decode cc pc = .ok (.putfield index, 3)) (kk : ∀ (σ1 : gS) (H1 : Heap) (locs1 : List Loc), σ1 = gu σ 106 0 v → gI D cy ad A s.heap σ1 H1 locs1 → W p l e R s m args below meth c H1 locs1 cells slots Q (F0 m (pc + 3) ls rest)) : W p l e R s m args below meth c H locs cells slots Q (F0 m pc ls (.int v :: .ref (ad 10) :: rest)) := 
  va_put (D := D) (ci := 9) (v := .int v) (ty := .int) (C := RX9) (T := TX9) (N := 47) hC.1 hC.2.1 hC.2.2.1 gin_X9 tyX9 tyX9_ok nmX9 hC.2.2.2.1 hC.2.2.2.2.1 hI.1 hI.2.1 hI.2.2 10 rfl rfl 43 (by decide) (hC.2.2.1 _ hL) (fun _ h9 => h9) rfl (by decide +kernel) rfl rfl (Nat.le_of_ble_eq_true rfl) hdg (fun H1 locs1 hP hD hS => kk _ H1 locs1 rfl ⟨hP, hD, hS⟩)
theorem gg_X9_begin (hC : gC p c cc s m args own D cy ad A) (hI : gI D cy ad A s.heap σ H locs) (hL : (Cond.fieldLink own index "FestivalFieldsModel" "begin" "I") ∈ gG) (hdg : decode cc pc = .ok (.getfield index, 3)) (kk : W p l e R s m args below meth c H locs cells slots Q (F0 m (pc + 3) ls (.int (σ 107 0) :: rest))) : W p l e R s m args below meth c H locs cells slots Q (F0 m pc ls (.ref (ad 10) :: rest)) := 
  va_get (D := D) (ci := 9) (v := .int (σ 107 0)) (C := RX9) (T := TX9) (N := 47) hC.1 hC.2.1 hC.2.2.1 gin_X9 hC.2.2.2.1 hC.2.2.2.2.1 hI.1 10 rfl rfl 44 (by decide) (hC.2.2.1 _ hL) (fun _ h9 => h9) rfl hdg kk
theorem gp_X9_begin (hC : gC p c cc s m args own D cy ad A) (hI : gI D cy ad A s.heap σ H locs) {v : Int32} (hL : (Cond.fieldLink own index "FestivalFieldsModel" "begin" "I") ∈ gG) (hdg : decode cc pc = .ok (.putfield index, 3)) (kk : ∀ (σ1 : gS) (H1 : Heap) (locs1 : List Loc), σ1 = gu σ 107 0 v → gI D cy ad A s.heap σ1 H1 locs1 → W p l e R s m args below meth c H1 locs1 cells slots Q (F0 m (pc + 3) ls rest)) : W p l e R s m args below meth c H locs cells slots Q (F0 m pc ls (.int v :: .ref (ad 10) :: rest)) := 
  va_put (D := D) (ci := 9) (v := .int v) (ty := .int) (C := RX9) (T := TX9) (N := 47) hC.1 hC.2.1 hC.2.2.1 gin_X9 tyX9 tyX9_ok nmX9 hC.2.2.2.1 hC.2.2.2.2.1 hI.1 hI.2.1 hI.2.2 10 rfl rfl 44 (by decide) (hC.2.2.1 _ hL) (fun _ h9 => h9) rfl (by decide +kernel) rfl rfl (Nat.le_of_ble_eq_true rfl) hdg (fun H1 locs1 hP hD hS => kk _ H1 locs1 rfl ⟨hP, hD, hS⟩)
theorem gg_X9_faultAt (hC : gC p c cc s m args own D cy ad A) (hI : gI D cy ad A s.heap σ H locs) (hL : (Cond.fieldLink own index "FestivalFieldsModel" "faultAt" "I") ∈ gG) (hdg : decode cc pc = .ok (.getfield index, 3)) (kk : W p l e R s m args below meth c H locs cells slots Q (F0 m (pc + 3) ls (.int (σ 108 0) :: rest))) : W p l e R s m args below meth c H locs cells slots Q (F0 m pc ls (.ref (ad 10) :: rest)) := 
  va_get (D := D) (ci := 9) (v := .int (σ 108 0)) (C := RX9) (T := TX9) (N := 47) hC.1 hC.2.1 hC.2.2.1 gin_X9 hC.2.2.2.1 hC.2.2.2.2.1 hI.1 10 rfl rfl 45 (by decide) (hC.2.2.1 _ hL) (fun _ h9 => h9) rfl hdg kk
theorem gp_X9_faultAt (hC : gC p c cc s m args own D cy ad A) (hI : gI D cy ad A s.heap σ H locs) {v : Int32} (hL : (Cond.fieldLink own index "FestivalFieldsModel" "faultAt" "I") ∈ gG) (hdg : decode cc pc = .ok (.putfield index, 3)) (kk : ∀ (σ1 : gS) (H1 : Heap) (locs1 : List Loc), σ1 = gu σ 108 0 v → gI D cy ad A s.heap σ1 H1 locs1 → W p l e R s m args below meth c H1 locs1 cells slots Q (F0 m (pc + 3) ls rest)) : W p l e R s m args below meth c H locs cells slots Q (F0 m pc ls (.int v :: .ref (ad 10) :: rest)) := 
  va_put (D := D) (ci := 9) (v := .int v) (ty := .int) (C := RX9) (T := TX9) (N := 47) hC.1 hC.2.1 hC.2.2.1 gin_X9 tyX9 tyX9_ok nmX9 hC.2.2.2.1 hC.2.2.2.2.1 hI.1 hI.2.1 hI.2.2 10 rfl rfl 45 (by decide) (hC.2.2.1 _ hL) (fun _ h9 => h9) rfl (by decide +kernel) rfl rfl (Nat.le_of_ble_eq_true rfl) hdg (fun H1 locs1 hP hD hS => kk _ H1 locs1 rfl ⟨hP, hD, hS⟩)
theorem gg_X9_five (hC : gC p c cc s m args own D cy ad A) (hI : gI D cy ad A s.heap σ H locs) (hL : (Cond.fieldLink own index "FestivalFieldsModel" "five" "[I") ∈ gG) (hdg : decode cc pc = .ok (.getfield index, 3)) (kk : W p l e R s m args below meth c H locs cells slots Q (F0 m (pc + 3) ls (.ref (ad 82) :: rest))) : W p l e R s m args below meth c H locs cells slots Q (F0 m pc ls (.ref (ad 10) :: rest)) := 
  va_get (D := D) (ci := 9) (v := .ref (ad 82)) (C := RX9) (T := TX9) (N := 47) hC.1 hC.2.1 hC.2.2.1 gin_X9 hC.2.2.2.1 hC.2.2.2.2.1 hI.1 10 rfl rfl 46 (by decide) (hC.2.2.1 _ hL) (fun _ h9 => h9) rfl hdg kk
theorem gg_X7_kinds (hC : gC p c cc s m args own D cy ad A) (hI : gI D cy ad A s.heap σ H locs) {j : Nat} (hj : j = 8 ∨ j = 9) (hL : (Cond.fieldLink own index "FestivalFields$Terms" "kinds" "[I") ∈ gG) (hdg : decode cc pc = .ok (.getfield index, 3)) (kk : W p l e R s m args below meth c H locs cells slots Q (F0 m (pc + 3) ls (.ref (ad (gtc j + 0)) :: rest))) : W p l e R s m args below meth c H locs cells slots Q (F0 m pc ls (.ref (ad j) :: rest)) := by
  rcases hj with rfl | rfl
  · exact gg_X7a_kinds hC hI hL hdg kk
  · exact gg_X7b_kinds hC hI hL hdg kk
theorem gg_X7_mosts (hC : gC p c cc s m args own D cy ad A) (hI : gI D cy ad A s.heap σ H locs) {j : Nat} (hj : j = 8 ∨ j = 9) (hL : (Cond.fieldLink own index "FestivalFields$Terms" "mosts" "[I") ∈ gG) (hdg : decode cc pc = .ok (.getfield index, 3)) (kk : W p l e R s m args below meth c H locs cells slots Q (F0 m (pc + 3) ls (.ref (ad (gtc j + 1)) :: rest))) : W p l e R s m args below meth c H locs cells slots Q (F0 m pc ls (.ref (ad j) :: rest)) := by
  rcases hj with rfl | rfl
  · exact gg_X7a_mosts hC hI hL hdg kk
  · exact gg_X7b_mosts hC hI hL hdg kk
theorem gg_X7_firstHours (hC : gC p c cc s m args own D cy ad A) (hI : gI D cy ad A s.heap σ H locs) {j : Nat} (hj : j = 8 ∨ j = 9) (hL : (Cond.fieldLink own index "FestivalFields$Terms" "firstHours" "[I") ∈ gG) (hdg : decode cc pc = .ok (.getfield index, 3)) (kk : W p l e R s m args below meth c H locs cells slots Q (F0 m (pc + 3) ls (.ref (ad (gtc j + 2)) :: rest))) : W p l e R s m args below meth c H locs cells slots Q (F0 m pc ls (.ref (ad j) :: rest)) := by
  rcases hj with rfl | rfl
  · exact gg_X7a_firstHours hC hI hL hdg kk
  · exact gg_X7b_firstHours hC hI hL hdg kk
theorem gg_X7_lastHours (hC : gC p c cc s m args own D cy ad A) (hI : gI D cy ad A s.heap σ H locs) {j : Nat} (hj : j = 8 ∨ j = 9) (hL : (Cond.fieldLink own index "FestivalFields$Terms" "lastHours" "[I") ∈ gG) (hdg : decode cc pc = .ok (.getfield index, 3)) (kk : W p l e R s m args below meth c H locs cells slots Q (F0 m (pc + 3) ls (.ref (ad (gtc j + 3)) :: rest))) : W p l e R s m args below meth c H locs cells slots Q (F0 m pc ls (.ref (ad j) :: rest)) := by
  rcases hj with rfl | rfl
  · exact gg_X7a_lastHours hC hI hL hdg kk
  · exact gg_X7b_lastHours hC hI hL hdg kk
theorem gg_X7_size (hC : gC p c cc s m args own D cy ad A) (hI : gI D cy ad A s.heap σ H locs) {j : Nat} (hj : j = 8 ∨ j = 9) (hL : (Cond.fieldLink own index "FestivalFields$Terms" "size" "I") ∈ gG) (hdg : decode cc pc = .ok (.getfield index, 3)) (kk : W p l e R s m args below meth c H locs cells slots Q (F0 m (pc + 3) ls (.int (σ (gtk j + 4) 0) :: rest))) : W p l e R s m args below meth c H locs cells slots Q (F0 m pc ls (.ref (ad j) :: rest)) := by
  rcases hj with rfl | rfl
  · exact gg_X7a_size hC hI hL hdg kk
  · exact gg_X7b_size hC hI hL hdg kk
theorem gp_X7_size (hC : gC p c cc s m args own D cy ad A) (hI : gI D cy ad A s.heap σ H locs) {j : Nat} (hj : j = 8 ∨ j = 9) {v : Int32} (hL : (Cond.fieldLink own index "FestivalFields$Terms" "size" "I") ∈ gG) (hdg : decode cc pc = .ok (.putfield index, 3)) (kk : ∀ (σ1 : gS) (H1 : Heap) (locs1 : List Loc), σ1 = gu σ (gtk j + 4) 0 v → gI D cy ad A s.heap σ1 H1 locs1 → W p l e R s m args below meth c H1 locs1 cells slots Q (F0 m (pc + 3) ls rest)) : W p l e R s m args below meth c H locs cells slots Q (F0 m pc ls (.int v :: .ref (ad j) :: rest)) := by
  rcases hj with rfl | rfl
  · exact gp_X7a_size hC hI hL hdg kk
  · exact gp_X7b_size hC hI hL hdg kk
theorem ga_11 (hC : gC p c cc s m args own D cy ad A) (hI : gI D cy ad A s.heap σ H locs) {i : Int32} (hin : vp_in i 12) (hdg : decode cc pc = .ok (.iaload, 1)) (kk : W p l e R s m args below meth c H locs cells slots Q (F0 m (pc + 1) ls (.int (σ 0 i.toNatClampNeg) :: rest))) : W p l e R s m args below meth c H locs cells slots Q (F0 m pc ls (.int i :: .ref (ad 11) :: rest)) := va_iald hC.1 hC.2.1 hC.2.2.2.2.1 hI.1 11 0 rfl rfl hin hdg kk
theorem gs_11 (hC : gC p c cc s m args own D cy ad A) (hI : gI D cy ad A s.heap σ H locs) {i v : Int32} (hin : vp_in i 12) (hdg : decode cc pc = .ok (.iastore, 1)) (kk : ∀ (σ1 : gS) (H1 : Heap) (locs1 : List Loc), σ1 = gu σ 0 i.toNatClampNeg v → gI D cy ad A s.heap σ1 H1 locs1 → W p l e R s m args below meth c H1 locs1 cells slots Q (F0 m (pc + 1) ls rest)) : W p l e R s m args below meth c H locs cells slots Q (F0 m pc ls (.int v :: .int i :: .ref (ad 11) :: rest)) := va_iast hC.1 hC.2.1 hC.2.2.2.2.1 hI.1 hI.2.1 hI.2.2 11 0 rfl rfl hin hdg (fun H1 locs1 hP hD hS => kk _ H1 locs1 rfl ⟨hP, hD, hS⟩)
theorem ga_12 (hC : gC p c cc s m args own D cy ad A) (hI : gI D cy ad A s.heap σ H locs) {i : Int32} (hin : vp_in i 12) (hdg : decode cc pc = .ok (.iaload, 1)) (kk : W p l e R s m args below meth c H locs cells slots Q (F0 m (pc + 1) ls (.int (σ 1 i.toNatClampNeg) :: rest))) : W p l e R s m args below meth c H locs cells slots Q (F0 m pc ls (.int i :: .ref (ad 12) :: rest)) := va_iald hC.1 hC.2.1 hC.2.2.2.2.1 hI.1 12 0 rfl rfl hin hdg kk
theorem gs_12 (hC : gC p c cc s m args own D cy ad A) (hI : gI D cy ad A s.heap σ H locs) {i v : Int32} (hin : vp_in i 12) (hdg : decode cc pc = .ok (.iastore, 1)) (kk : ∀ (σ1 : gS) (H1 : Heap) (locs1 : List Loc), σ1 = gu σ 1 i.toNatClampNeg v → gI D cy ad A s.heap σ1 H1 locs1 → W p l e R s m args below meth c H1 locs1 cells slots Q (F0 m (pc + 1) ls rest)) : W p l e R s m args below meth c H locs cells slots Q (F0 m pc ls (.int v :: .int i :: .ref (ad 12) :: rest)) := va_iast hC.1 hC.2.1 hC.2.2.2.2.1 hI.1 hI.2.1 hI.2.2 12 0 rfl rfl hin hdg (fun H1 locs1 hP hD hS => kk _ H1 locs1 rfl ⟨hP, hD, hS⟩)
theorem ga_13 (hC : gC p c cc s m args own D cy ad A) (hI : gI D cy ad A s.heap σ H locs) {i : Int32} (hin : vp_in i 12) (hdg : decode cc pc = .ok (.iaload, 1)) (kk : W p l e R s m args below meth c H locs cells slots Q (F0 m (pc + 1) ls (.int (σ 2 i.toNatClampNeg) :: rest))) : W p l e R s m args below meth c H locs cells slots Q (F0 m pc ls (.int i :: .ref (ad 13) :: rest)) := va_iald hC.1 hC.2.1 hC.2.2.2.2.1 hI.1 13 0 rfl rfl hin hdg kk
theorem gs_13 (hC : gC p c cc s m args own D cy ad A) (hI : gI D cy ad A s.heap σ H locs) {i v : Int32} (hin : vp_in i 12) (hdg : decode cc pc = .ok (.iastore, 1)) (kk : ∀ (σ1 : gS) (H1 : Heap) (locs1 : List Loc), σ1 = gu σ 2 i.toNatClampNeg v → gI D cy ad A s.heap σ1 H1 locs1 → W p l e R s m args below meth c H1 locs1 cells slots Q (F0 m (pc + 1) ls rest)) : W p l e R s m args below meth c H locs cells slots Q (F0 m pc ls (.int v :: .int i :: .ref (ad 13) :: rest)) := va_iast hC.1 hC.2.1 hC.2.2.2.2.1 hI.1 hI.2.1 hI.2.2 13 0 rfl rfl hin hdg (fun H1 locs1 hP hD hS => kk _ H1 locs1 rfl ⟨hP, hD, hS⟩)
theorem ga_14 (hC : gC p c cc s m args own D cy ad A) (hI : gI D cy ad A s.heap σ H locs) {i : Int32} (hin : vp_in i 12) (hdg : decode cc pc = .ok (.iaload, 1)) (kk : W p l e R s m args below meth c H locs cells slots Q (F0 m (pc + 1) ls (.int (σ 3 i.toNatClampNeg) :: rest))) : W p l e R s m args below meth c H locs cells slots Q (F0 m pc ls (.int i :: .ref (ad 14) :: rest)) := va_iald hC.1 hC.2.1 hC.2.2.2.2.1 hI.1 14 0 rfl rfl hin hdg kk
theorem gs_14 (hC : gC p c cc s m args own D cy ad A) (hI : gI D cy ad A s.heap σ H locs) {i v : Int32} (hin : vp_in i 12) (hdg : decode cc pc = .ok (.iastore, 1)) (kk : ∀ (σ1 : gS) (H1 : Heap) (locs1 : List Loc), σ1 = gu σ 3 i.toNatClampNeg v → gI D cy ad A s.heap σ1 H1 locs1 → W p l e R s m args below meth c H1 locs1 cells slots Q (F0 m (pc + 1) ls rest)) : W p l e R s m args below meth c H locs cells slots Q (F0 m pc ls (.int v :: .int i :: .ref (ad 14) :: rest)) := va_iast hC.1 hC.2.1 hC.2.2.2.2.1 hI.1 hI.2.1 hI.2.2 14 0 rfl rfl hin hdg (fun H1 locs1 hP hD hS => kk _ H1 locs1 rfl ⟨hP, hD, hS⟩)
theorem ga_15 (hC : gC p c cc s m args own D cy ad A) (hI : gI D cy ad A s.heap σ H locs) {i : Int32} (hin : vp_in i 12) (hdg : decode cc pc = .ok (.iaload, 1)) (kk : W p l e R s m args below meth c H locs cells slots Q (F0 m (pc + 1) ls (.int (σ 5 i.toNatClampNeg) :: rest))) : W p l e R s m args below meth c H locs cells slots Q (F0 m pc ls (.int i :: .ref (ad 15) :: rest)) := va_iald hC.1 hC.2.1 hC.2.2.2.2.1 hI.1 15 0 rfl rfl hin hdg kk
theorem gs_15 (hC : gC p c cc s m args own D cy ad A) (hI : gI D cy ad A s.heap σ H locs) {i v : Int32} (hin : vp_in i 12) (hdg : decode cc pc = .ok (.iastore, 1)) (kk : ∀ (σ1 : gS) (H1 : Heap) (locs1 : List Loc), σ1 = gu σ 5 i.toNatClampNeg v → gI D cy ad A s.heap σ1 H1 locs1 → W p l e R s m args below meth c H1 locs1 cells slots Q (F0 m (pc + 1) ls rest)) : W p l e R s m args below meth c H locs cells slots Q (F0 m pc ls (.int v :: .int i :: .ref (ad 15) :: rest)) := va_iast hC.1 hC.2.1 hC.2.2.2.2.1 hI.1 hI.2.1 hI.2.2 15 0 rfl rfl hin hdg (fun H1 locs1 hP hD hS => kk _ H1 locs1 rfl ⟨hP, hD, hS⟩)
theorem ga_16 (hC : gC p c cc s m args own D cy ad A) (hI : gI D cy ad A s.heap σ H locs) {i : Int32} (hin : vp_in i 12) (hdg : decode cc pc = .ok (.iaload, 1)) (kk : W p l e R s m args below meth c H locs cells slots Q (F0 m (pc + 1) ls (.int (σ 6 i.toNatClampNeg) :: rest))) : W p l e R s m args below meth c H locs cells slots Q (F0 m pc ls (.int i :: .ref (ad 16) :: rest)) := va_iald hC.1 hC.2.1 hC.2.2.2.2.1 hI.1 16 0 rfl rfl hin hdg kk
theorem gs_16 (hC : gC p c cc s m args own D cy ad A) (hI : gI D cy ad A s.heap σ H locs) {i v : Int32} (hin : vp_in i 12) (hdg : decode cc pc = .ok (.iastore, 1)) (kk : ∀ (σ1 : gS) (H1 : Heap) (locs1 : List Loc), σ1 = gu σ 6 i.toNatClampNeg v → gI D cy ad A s.heap σ1 H1 locs1 → W p l e R s m args below meth c H1 locs1 cells slots Q (F0 m (pc + 1) ls rest)) : W p l e R s m args below meth c H locs cells slots Q (F0 m pc ls (.int v :: .int i :: .ref (ad 16) :: rest)) := va_iast hC.1 hC.2.1 hC.2.2.2.2.1 hI.1 hI.2.1 hI.2.2 16 0 rfl rfl hin hdg (fun H1 locs1 hP hD hS => kk _ H1 locs1 rfl ⟨hP, hD, hS⟩)
theorem ga_17 (hC : gC p c cc s m args own D cy ad A) (hI : gI D cy ad A s.heap σ H locs) {i : Int32} (hin : vp_in i 12) (hdg : decode cc pc = .ok (.iaload, 1)) (kk : W p l e R s m args below meth c H locs cells slots Q (F0 m (pc + 1) ls (.int (σ 7 i.toNatClampNeg) :: rest))) : W p l e R s m args below meth c H locs cells slots Q (F0 m pc ls (.int i :: .ref (ad 17) :: rest)) := va_iald hC.1 hC.2.1 hC.2.2.2.2.1 hI.1 17 0 rfl rfl hin hdg kk
theorem gs_17 (hC : gC p c cc s m args own D cy ad A) (hI : gI D cy ad A s.heap σ H locs) {i v : Int32} (hin : vp_in i 12) (hdg : decode cc pc = .ok (.iastore, 1)) (kk : ∀ (σ1 : gS) (H1 : Heap) (locs1 : List Loc), σ1 = gu σ 7 i.toNatClampNeg v → gI D cy ad A s.heap σ1 H1 locs1 → W p l e R s m args below meth c H1 locs1 cells slots Q (F0 m (pc + 1) ls rest)) : W p l e R s m args below meth c H locs cells slots Q (F0 m pc ls (.int v :: .int i :: .ref (ad 17) :: rest)) := va_iast hC.1 hC.2.1 hC.2.2.2.2.1 hI.1 hI.2.1 hI.2.2 17 0 rfl rfl hin hdg (fun H1 locs1 hP hD hS => kk _ H1 locs1 rfl ⟨hP, hD, hS⟩)
theorem ga_18 (hC : gC p c cc s m args own D cy ad A) (hI : gI D cy ad A s.heap σ H locs) {i : Int32} (hin : vp_in i 12) (hdg : decode cc pc = .ok (.iaload, 1)) (kk : W p l e R s m args below meth c H locs cells slots Q (F0 m (pc + 1) ls (.int (σ 8 i.toNatClampNeg) :: rest))) : W p l e R s m args below meth c H locs cells slots Q (F0 m pc ls (.int i :: .ref (ad 18) :: rest)) := va_iald hC.1 hC.2.1 hC.2.2.2.2.1 hI.1 18 0 rfl rfl hin hdg kk
theorem gs_18 (hC : gC p c cc s m args own D cy ad A) (hI : gI D cy ad A s.heap σ H locs) {i v : Int32} (hin : vp_in i 12) (hdg : decode cc pc = .ok (.iastore, 1)) (kk : ∀ (σ1 : gS) (H1 : Heap) (locs1 : List Loc), σ1 = gu σ 8 i.toNatClampNeg v → gI D cy ad A s.heap σ1 H1 locs1 → W p l e R s m args below meth c H1 locs1 cells slots Q (F0 m (pc + 1) ls rest)) : W p l e R s m args below meth c H locs cells slots Q (F0 m pc ls (.int v :: .int i :: .ref (ad 18) :: rest)) := va_iast hC.1 hC.2.1 hC.2.2.2.2.1 hI.1 hI.2.1 hI.2.2 18 0 rfl rfl hin hdg (fun H1 locs1 hP hD hS => kk _ H1 locs1 rfl ⟨hP, hD, hS⟩)
theorem ga_19 (hC : gC p c cc s m args own D cy ad A) (hI : gI D cy ad A s.heap σ H locs) {i : Int32} (hin : vp_in i 24) (hdg : decode cc pc = .ok (.iaload, 1)) (kk : W p l e R s m args below meth c H locs cells slots Q (F0 m (pc + 1) ls (.int (σ 10 i.toNatClampNeg) :: rest))) : W p l e R s m args below meth c H locs cells slots Q (F0 m pc ls (.int i :: .ref (ad 19) :: rest)) := va_iald hC.1 hC.2.1 hC.2.2.2.2.1 hI.1 19 0 rfl rfl hin hdg kk
theorem gs_19 (hC : gC p c cc s m args own D cy ad A) (hI : gI D cy ad A s.heap σ H locs) {i v : Int32} (hin : vp_in i 24) (hdg : decode cc pc = .ok (.iastore, 1)) (kk : ∀ (σ1 : gS) (H1 : Heap) (locs1 : List Loc), σ1 = gu σ 10 i.toNatClampNeg v → gI D cy ad A s.heap σ1 H1 locs1 → W p l e R s m args below meth c H1 locs1 cells slots Q (F0 m (pc + 1) ls rest)) : W p l e R s m args below meth c H locs cells slots Q (F0 m pc ls (.int v :: .int i :: .ref (ad 19) :: rest)) := va_iast hC.1 hC.2.1 hC.2.2.2.2.1 hI.1 hI.2.1 hI.2.2 19 0 rfl rfl hin hdg (fun H1 locs1 hP hD hS => kk _ H1 locs1 rfl ⟨hP, hD, hS⟩)
theorem ga_20 (hC : gC p c cc s m args own D cy ad A) (hI : gI D cy ad A s.heap σ H locs) {i : Int32} (hin : vp_in i 400) (hdg : decode cc pc = .ok (.iaload, 1)) (kk : W p l e R s m args below meth c H locs cells slots Q (F0 m (pc + 1) ls (.int (σ 15 i.toNatClampNeg) :: rest))) : W p l e R s m args below meth c H locs cells slots Q (F0 m pc ls (.int i :: .ref (ad 20) :: rest)) := va_iald hC.1 hC.2.1 hC.2.2.2.2.1 hI.1 20 0 rfl rfl hin hdg kk
theorem gs_20 (hC : gC p c cc s m args own D cy ad A) (hI : gI D cy ad A s.heap σ H locs) {i v : Int32} (hin : vp_in i 400) (hdg : decode cc pc = .ok (.iastore, 1)) (kk : ∀ (σ1 : gS) (H1 : Heap) (locs1 : List Loc), σ1 = gu σ 15 i.toNatClampNeg v → gI D cy ad A s.heap σ1 H1 locs1 → W p l e R s m args below meth c H1 locs1 cells slots Q (F0 m (pc + 1) ls rest)) : W p l e R s m args below meth c H locs cells slots Q (F0 m pc ls (.int v :: .int i :: .ref (ad 20) :: rest)) := va_iast hC.1 hC.2.1 hC.2.2.2.2.1 hI.1 hI.2.1 hI.2.2 20 0 rfl rfl hin hdg (fun H1 locs1 hP hD hS => kk _ H1 locs1 rfl ⟨hP, hD, hS⟩)
theorem ga_21 (hC : gC p c cc s m args own D cy ad A) (hI : gI D cy ad A s.heap σ H locs) {i : Int32} (hin : vp_in i 192) (hdg : decode cc pc = .ok (.iaload, 1)) (kk : W p l e R s m args below meth c H locs cells slots Q (F0 m (pc + 1) ls (.int (σ 19 i.toNatClampNeg) :: rest))) : W p l e R s m args below meth c H locs cells slots Q (F0 m pc ls (.int i :: .ref (ad 21) :: rest)) := va_iald hC.1 hC.2.1 hC.2.2.2.2.1 hI.1 21 0 rfl rfl hin hdg kk
theorem gs_21 (hC : gC p c cc s m args own D cy ad A) (hI : gI D cy ad A s.heap σ H locs) {i v : Int32} (hin : vp_in i 192) (hdg : decode cc pc = .ok (.iastore, 1)) (kk : ∀ (σ1 : gS) (H1 : Heap) (locs1 : List Loc), σ1 = gu σ 19 i.toNatClampNeg v → gI D cy ad A s.heap σ1 H1 locs1 → W p l e R s m args below meth c H1 locs1 cells slots Q (F0 m (pc + 1) ls rest)) : W p l e R s m args below meth c H locs cells slots Q (F0 m pc ls (.int v :: .int i :: .ref (ad 21) :: rest)) := va_iast hC.1 hC.2.1 hC.2.2.2.2.1 hI.1 hI.2.1 hI.2.2 21 0 rfl rfl hin hdg (fun H1 locs1 hP hD hS => kk _ H1 locs1 rfl ⟨hP, hD, hS⟩)
theorem ga_22 (hC : gC p c cc s m args own D cy ad A) (hI : gI D cy ad A s.heap σ H locs) {i : Int32} (hin : vp_in i 8) (hdg : decode cc pc = .ok (.iaload, 1)) (kk : W p l e R s m args below meth c H locs cells slots Q (F0 m (pc + 1) ls (.int (σ 23 i.toNatClampNeg) :: rest))) : W p l e R s m args below meth c H locs cells slots Q (F0 m pc ls (.int i :: .ref (ad 22) :: rest)) := va_iald hC.1 hC.2.1 hC.2.2.2.2.1 hI.1 22 0 rfl rfl hin hdg kk
theorem gs_22 (hC : gC p c cc s m args own D cy ad A) (hI : gI D cy ad A s.heap σ H locs) {i v : Int32} (hin : vp_in i 8) (hdg : decode cc pc = .ok (.iastore, 1)) (kk : ∀ (σ1 : gS) (H1 : Heap) (locs1 : List Loc), σ1 = gu σ 23 i.toNatClampNeg v → gI D cy ad A s.heap σ1 H1 locs1 → W p l e R s m args below meth c H1 locs1 cells slots Q (F0 m (pc + 1) ls rest)) : W p l e R s m args below meth c H locs cells slots Q (F0 m pc ls (.int v :: .int i :: .ref (ad 22) :: rest)) := va_iast hC.1 hC.2.1 hC.2.2.2.2.1 hI.1 hI.2.1 hI.2.2 22 0 rfl rfl hin hdg (fun H1 locs1 hP hD hS => kk _ H1 locs1 rfl ⟨hP, hD, hS⟩)
theorem ga_23 (hC : gC p c cc s m args own D cy ad A) (hI : gI D cy ad A s.heap σ H locs) {i : Int32} (hin : vp_in i 8) (hdg : decode cc pc = .ok (.iaload, 1)) (kk : W p l e R s m args below meth c H locs cells slots Q (F0 m (pc + 1) ls (.int (σ 24 i.toNatClampNeg) :: rest))) : W p l e R s m args below meth c H locs cells slots Q (F0 m pc ls (.int i :: .ref (ad 23) :: rest)) := va_iald hC.1 hC.2.1 hC.2.2.2.2.1 hI.1 23 0 rfl rfl hin hdg kk
theorem gs_23 (hC : gC p c cc s m args own D cy ad A) (hI : gI D cy ad A s.heap σ H locs) {i v : Int32} (hin : vp_in i 8) (hdg : decode cc pc = .ok (.iastore, 1)) (kk : ∀ (σ1 : gS) (H1 : Heap) (locs1 : List Loc), σ1 = gu σ 24 i.toNatClampNeg v → gI D cy ad A s.heap σ1 H1 locs1 → W p l e R s m args below meth c H1 locs1 cells slots Q (F0 m (pc + 1) ls rest)) : W p l e R s m args below meth c H locs cells slots Q (F0 m pc ls (.int v :: .int i :: .ref (ad 23) :: rest)) := va_iast hC.1 hC.2.1 hC.2.2.2.2.1 hI.1 hI.2.1 hI.2.2 23 0 rfl rfl hin hdg (fun H1 locs1 hP hD hS => kk _ H1 locs1 rfl ⟨hP, hD, hS⟩)
theorem ga_24 (hC : gC p c cc s m args own D cy ad A) (hI : gI D cy ad A s.heap σ H locs) {i : Int32} (hin : vp_in i 8) (hdg : decode cc pc = .ok (.baload, 1)) (kk : W p l e R s m args below meth c H locs cells slots Q (F0 m (pc + 1) ls (.int (σ 25 i.toNatClampNeg) :: rest))) : W p l e R s m args below meth c H locs cells slots Q (F0 m pc ls (.int i :: .ref (ad 24) :: rest)) := va_zald hC.1 hC.2.1 hC.2.2.2.2.1 hI.1 24 1 rfl rfl hin hdg kk
theorem gs_24 (hC : gC p c cc s m args own D cy ad A) (hI : gI D cy ad A s.heap σ H locs) {i v : Int32} (hin : vp_in i 8) (hdg : decode cc pc = .ok (.bastore, 1)) (kk : ∀ (σ1 : gS) (H1 : Heap) (locs1 : List Loc), σ1 = gu σ 25 i.toNatClampNeg (vp_nar .boolean v) → gI D cy ad A s.heap σ1 H1 locs1 → W p l e R s m args below meth c H1 locs1 cells slots Q (F0 m (pc + 1) ls rest)) : W p l e R s m args below meth c H locs cells slots Q (F0 m pc ls (.int v :: .int i :: .ref (ad 24) :: rest)) := va_zast hC.1 hC.2.1 hC.2.2.2.2.1 hI.1 hI.2.1 hI.2.2 24 1 rfl rfl hin hdg (fun H1 locs1 hP hD hS => kk _ H1 locs1 rfl ⟨hP, hD, hS⟩)
theorem ga_25 (hC : gC p c cc s m args own D cy ad A) (hI : gI D cy ad A s.heap σ H locs) {i : Int32} (hin : vp_in i 28) (hdg : decode cc pc = .ok (.iaload, 1)) (kk : W p l e R s m args below meth c H locs cells slots Q (F0 m (pc + 1) ls (.int (σ 27 i.toNatClampNeg) :: rest))) : W p l e R s m args below meth c H locs cells slots Q (F0 m pc ls (.int i :: .ref (ad 25) :: rest)) := va_iald hC.1 hC.2.1 hC.2.2.2.2.1 hI.1 25 0 rfl rfl hin hdg kk
theorem gs_25 (hC : gC p c cc s m args own D cy ad A) (hI : gI D cy ad A s.heap σ H locs) {i v : Int32} (hin : vp_in i 28) (hdg : decode cc pc = .ok (.iastore, 1)) (kk : ∀ (σ1 : gS) (H1 : Heap) (locs1 : List Loc), σ1 = gu σ 27 i.toNatClampNeg v → gI D cy ad A s.heap σ1 H1 locs1 → W p l e R s m args below meth c H1 locs1 cells slots Q (F0 m (pc + 1) ls rest)) : W p l e R s m args below meth c H locs cells slots Q (F0 m pc ls (.int v :: .int i :: .ref (ad 25) :: rest)) := va_iast hC.1 hC.2.1 hC.2.2.2.2.1 hI.1 hI.2.1 hI.2.2 25 0 rfl rfl hin hdg (fun H1 locs1 hP hD hS => kk _ H1 locs1 rfl ⟨hP, hD, hS⟩)
theorem ga_26 (hC : gC p c cc s m args own D cy ad A) (hI : gI D cy ad A s.heap σ H locs) {i : Int32} (hin : vp_in i 28) (hdg : decode cc pc = .ok (.iaload, 1)) (kk : W p l e R s m args below meth c H locs cells slots Q (F0 m (pc + 1) ls (.int (σ 28 i.toNatClampNeg) :: rest))) : W p l e R s m args below meth c H locs cells slots Q (F0 m pc ls (.int i :: .ref (ad 26) :: rest)) := va_iald hC.1 hC.2.1 hC.2.2.2.2.1 hI.1 26 0 rfl rfl hin hdg kk
theorem gs_26 (hC : gC p c cc s m args own D cy ad A) (hI : gI D cy ad A s.heap σ H locs) {i v : Int32} (hin : vp_in i 28) (hdg : decode cc pc = .ok (.iastore, 1)) (kk : ∀ (σ1 : gS) (H1 : Heap) (locs1 : List Loc), σ1 = gu σ 28 i.toNatClampNeg v → gI D cy ad A s.heap σ1 H1 locs1 → W p l e R s m args below meth c H1 locs1 cells slots Q (F0 m (pc + 1) ls rest)) : W p l e R s m args below meth c H locs cells slots Q (F0 m pc ls (.int v :: .int i :: .ref (ad 26) :: rest)) := va_iast hC.1 hC.2.1 hC.2.2.2.2.1 hI.1 hI.2.1 hI.2.2 26 0 rfl rfl hin hdg (fun H1 locs1 hP hD hS => kk _ H1 locs1 rfl ⟨hP, hD, hS⟩)
theorem ga_27 (hC : gC p c cc s m args own D cy ad A) (hI : gI D cy ad A s.heap σ H locs) {i : Int32} (hin : vp_in i 28) (hdg : decode cc pc = .ok (.iaload, 1)) (kk : W p l e R s m args below meth c H locs cells slots Q (F0 m (pc + 1) ls (.int (σ 29 i.toNatClampNeg) :: rest))) : W p l e R s m args below meth c H locs cells slots Q (F0 m pc ls (.int i :: .ref (ad 27) :: rest)) := va_iald hC.1 hC.2.1 hC.2.2.2.2.1 hI.1 27 0 rfl rfl hin hdg kk
theorem gs_27 (hC : gC p c cc s m args own D cy ad A) (hI : gI D cy ad A s.heap σ H locs) {i v : Int32} (hin : vp_in i 28) (hdg : decode cc pc = .ok (.iastore, 1)) (kk : ∀ (σ1 : gS) (H1 : Heap) (locs1 : List Loc), σ1 = gu σ 29 i.toNatClampNeg v → gI D cy ad A s.heap σ1 H1 locs1 → W p l e R s m args below meth c H1 locs1 cells slots Q (F0 m (pc + 1) ls rest)) : W p l e R s m args below meth c H locs cells slots Q (F0 m pc ls (.int v :: .int i :: .ref (ad 27) :: rest)) := va_iast hC.1 hC.2.1 hC.2.2.2.2.1 hI.1 hI.2.1 hI.2.2 27 0 rfl rfl hin hdg (fun H1 locs1 hP hD hS => kk _ H1 locs1 rfl ⟨hP, hD, hS⟩)
theorem ga_28 (hC : gC p c cc s m args own D cy ad A) (hI : gI D cy ad A s.heap σ H locs) {i : Int32} (hin : vp_in i 112) (hdg : decode cc pc = .ok (.iaload, 1)) (kk : W p l e R s m args below meth c H locs cells slots Q (F0 m (pc + 1) ls (.int (σ 31 i.toNatClampNeg) :: rest))) : W p l e R s m args below meth c H locs cells slots Q (F0 m pc ls (.int i :: .ref (ad 28) :: rest)) := va_iald hC.1 hC.2.1 hC.2.2.2.2.1 hI.1 28 0 rfl rfl hin hdg kk
theorem gs_28 (hC : gC p c cc s m args own D cy ad A) (hI : gI D cy ad A s.heap σ H locs) {i v : Int32} (hin : vp_in i 112) (hdg : decode cc pc = .ok (.iastore, 1)) (kk : ∀ (σ1 : gS) (H1 : Heap) (locs1 : List Loc), σ1 = gu σ 31 i.toNatClampNeg v → gI D cy ad A s.heap σ1 H1 locs1 → W p l e R s m args below meth c H1 locs1 cells slots Q (F0 m (pc + 1) ls rest)) : W p l e R s m args below meth c H locs cells slots Q (F0 m pc ls (.int v :: .int i :: .ref (ad 28) :: rest)) := va_iast hC.1 hC.2.1 hC.2.2.2.2.1 hI.1 hI.2.1 hI.2.2 28 0 rfl rfl hin hdg (fun H1 locs1 hP hD hS => kk _ H1 locs1 rfl ⟨hP, hD, hS⟩)
theorem ga_29 (hC : gC p c cc s m args own D cy ad A) (hI : gI D cy ad A s.heap σ H locs) {i : Int32} (hin : vp_in i 8) (hdg : decode cc pc = .ok (.iaload, 1)) (kk : W p l e R s m args below meth c H locs cells slots Q (F0 m (pc + 1) ls (.int (σ 32 i.toNatClampNeg) :: rest))) : W p l e R s m args below meth c H locs cells slots Q (F0 m pc ls (.int i :: .ref (ad 29) :: rest)) := va_iald hC.1 hC.2.1 hC.2.2.2.2.1 hI.1 29 0 rfl rfl hin hdg kk
theorem gs_29 (hC : gC p c cc s m args own D cy ad A) (hI : gI D cy ad A s.heap σ H locs) {i v : Int32} (hin : vp_in i 8) (hdg : decode cc pc = .ok (.iastore, 1)) (kk : ∀ (σ1 : gS) (H1 : Heap) (locs1 : List Loc), σ1 = gu σ 32 i.toNatClampNeg v → gI D cy ad A s.heap σ1 H1 locs1 → W p l e R s m args below meth c H1 locs1 cells slots Q (F0 m (pc + 1) ls rest)) : W p l e R s m args below meth c H locs cells slots Q (F0 m pc ls (.int v :: .int i :: .ref (ad 29) :: rest)) := va_iast hC.1 hC.2.1 hC.2.2.2.2.1 hI.1 hI.2.1 hI.2.2 29 0 rfl rfl hin hdg (fun H1 locs1 hP hD hS => kk _ H1 locs1 rfl ⟨hP, hD, hS⟩)
theorem ga_30 (hC : gC p c cc s m args own D cy ad A) (hI : gI D cy ad A s.heap σ H locs) {i : Int32} (hin : vp_in i 1120) (hdg : decode cc pc = .ok (.iaload, 1)) (kk : W p l e R s m args below meth c H locs cells slots Q (F0 m (pc + 1) ls (.int (σ 37 i.toNatClampNeg) :: rest))) : W p l e R s m args below meth c H locs cells slots Q (F0 m pc ls (.int i :: .ref (ad 30) :: rest)) := va_iald hC.1 hC.2.1 hC.2.2.2.2.1 hI.1 30 0 rfl rfl hin hdg kk
theorem gs_30 (hC : gC p c cc s m args own D cy ad A) (hI : gI D cy ad A s.heap σ H locs) {i v : Int32} (hin : vp_in i 1120) (hdg : decode cc pc = .ok (.iastore, 1)) (kk : ∀ (σ1 : gS) (H1 : Heap) (locs1 : List Loc), σ1 = gu σ 37 i.toNatClampNeg v → gI D cy ad A s.heap σ1 H1 locs1 → W p l e R s m args below meth c H1 locs1 cells slots Q (F0 m (pc + 1) ls rest)) : W p l e R s m args below meth c H locs cells slots Q (F0 m pc ls (.int v :: .int i :: .ref (ad 30) :: rest)) := va_iast hC.1 hC.2.1 hC.2.2.2.2.1 hI.1 hI.2.1 hI.2.2 30 0 rfl rfl hin hdg (fun H1 locs1 hP hD hS => kk _ H1 locs1 rfl ⟨hP, hD, hS⟩)
theorem ga_31 (hC : gC p c cc s m args own D cy ad A) (hI : gI D cy ad A s.heap σ H locs) {i : Int32} (hin : vp_in i 320) (hdg : decode cc pc = .ok (.iaload, 1)) (kk : W p l e R s m args below meth c H locs cells slots Q (F0 m (pc + 1) ls (.int (σ 38 i.toNatClampNeg) :: rest))) : W p l e R s m args below meth c H locs cells slots Q (F0 m pc ls (.int i :: .ref (ad 31) :: rest)) := va_iald hC.1 hC.2.1 hC.2.2.2.2.1 hI.1 31 0 rfl rfl hin hdg kk
theorem gs_31 (hC : gC p c cc s m args own D cy ad A) (hI : gI D cy ad A s.heap σ H locs) {i v : Int32} (hin : vp_in i 320) (hdg : decode cc pc = .ok (.iastore, 1)) (kk : ∀ (σ1 : gS) (H1 : Heap) (locs1 : List Loc), σ1 = gu σ 38 i.toNatClampNeg v → gI D cy ad A s.heap σ1 H1 locs1 → W p l e R s m args below meth c H1 locs1 cells slots Q (F0 m (pc + 1) ls rest)) : W p l e R s m args below meth c H locs cells slots Q (F0 m pc ls (.int v :: .int i :: .ref (ad 31) :: rest)) := va_iast hC.1 hC.2.1 hC.2.2.2.2.1 hI.1 hI.2.1 hI.2.2 31 0 rfl rfl hin hdg (fun H1 locs1 hP hD hS => kk _ H1 locs1 rfl ⟨hP, hD, hS⟩)
theorem ga_32 (hC : gC p c cc s m args own D cy ad A) (hI : gI D cy ad A s.heap σ H locs) {i : Int32} (hin : vp_in i 28) (hdg : decode cc pc = .ok (.iaload, 1)) (kk : W p l e R s m args below meth c H locs cells slots Q (F0 m (pc + 1) ls (.int (σ 39 i.toNatClampNeg) :: rest))) : W p l e R s m args below meth c H locs cells slots Q (F0 m pc ls (.int i :: .ref (ad 32) :: rest)) := va_iald hC.1 hC.2.1 hC.2.2.2.2.1 hI.1 32 0 rfl rfl hin hdg kk
theorem gs_32 (hC : gC p c cc s m args own D cy ad A) (hI : gI D cy ad A s.heap σ H locs) {i v : Int32} (hin : vp_in i 28) (hdg : decode cc pc = .ok (.iastore, 1)) (kk : ∀ (σ1 : gS) (H1 : Heap) (locs1 : List Loc), σ1 = gu σ 39 i.toNatClampNeg v → gI D cy ad A s.heap σ1 H1 locs1 → W p l e R s m args below meth c H1 locs1 cells slots Q (F0 m (pc + 1) ls rest)) : W p l e R s m args below meth c H locs cells slots Q (F0 m pc ls (.int v :: .int i :: .ref (ad 32) :: rest)) := va_iast hC.1 hC.2.1 hC.2.2.2.2.1 hI.1 hI.2.1 hI.2.2 32 0 rfl rfl hin hdg (fun H1 locs1 hP hD hS => kk _ H1 locs1 rfl ⟨hP, hD, hS⟩)
theorem ga_33 (hC : gC p c cc s m args own D cy ad A) (hI : gI D cy ad A s.heap σ H locs) {i : Int32} (hin : vp_in i 8) (hdg : decode cc pc = .ok (.iaload, 1)) (kk : W p l e R s m args below meth c H locs cells slots Q (F0 m (pc + 1) ls (.int (σ 40 i.toNatClampNeg) :: rest))) : W p l e R s m args below meth c H locs cells slots Q (F0 m pc ls (.int i :: .ref (ad 33) :: rest)) := va_iald hC.1 hC.2.1 hC.2.2.2.2.1 hI.1 33 0 rfl rfl hin hdg kk
theorem gs_33 (hC : gC p c cc s m args own D cy ad A) (hI : gI D cy ad A s.heap σ H locs) {i v : Int32} (hin : vp_in i 8) (hdg : decode cc pc = .ok (.iastore, 1)) (kk : ∀ (σ1 : gS) (H1 : Heap) (locs1 : List Loc), σ1 = gu σ 40 i.toNatClampNeg v → gI D cy ad A s.heap σ1 H1 locs1 → W p l e R s m args below meth c H1 locs1 cells slots Q (F0 m (pc + 1) ls rest)) : W p l e R s m args below meth c H locs cells slots Q (F0 m pc ls (.int v :: .int i :: .ref (ad 33) :: rest)) := va_iast hC.1 hC.2.1 hC.2.2.2.2.1 hI.1 hI.2.1 hI.2.2 33 0 rfl rfl hin hdg (fun H1 locs1 hP hD hS => kk _ H1 locs1 rfl ⟨hP, hD, hS⟩)
theorem ga_34 (hC : gC p c cc s m args own D cy ad A) (hI : gI D cy ad A s.heap σ H locs) {i : Int32} (hin : vp_in i 8) (hdg : decode cc pc = .ok (.iaload, 1)) (kk : W p l e R s m args below meth c H locs cells slots Q (F0 m (pc + 1) ls (.int (σ 41 i.toNatClampNeg) :: rest))) : W p l e R s m args below meth c H locs cells slots Q (F0 m pc ls (.int i :: .ref (ad 34) :: rest)) := va_iald hC.1 hC.2.1 hC.2.2.2.2.1 hI.1 34 0 rfl rfl hin hdg kk
theorem gs_34 (hC : gC p c cc s m args own D cy ad A) (hI : gI D cy ad A s.heap σ H locs) {i v : Int32} (hin : vp_in i 8) (hdg : decode cc pc = .ok (.iastore, 1)) (kk : ∀ (σ1 : gS) (H1 : Heap) (locs1 : List Loc), σ1 = gu σ 41 i.toNatClampNeg v → gI D cy ad A s.heap σ1 H1 locs1 → W p l e R s m args below meth c H1 locs1 cells slots Q (F0 m (pc + 1) ls rest)) : W p l e R s m args below meth c H locs cells slots Q (F0 m pc ls (.int v :: .int i :: .ref (ad 34) :: rest)) := va_iast hC.1 hC.2.1 hC.2.2.2.2.1 hI.1 hI.2.1 hI.2.2 34 0 rfl rfl hin hdg (fun H1 locs1 hP hD hS => kk _ H1 locs1 rfl ⟨hP, hD, hS⟩)
theorem ga_35 (hC : gC p c cc s m args own D cy ad A) (hI : gI D cy ad A s.heap σ H locs) {i : Int32} (hin : vp_in i 8) (hdg : decode cc pc = .ok (.iaload, 1)) (kk : W p l e R s m args below meth c H locs cells slots Q (F0 m (pc + 1) ls (.int (σ 42 i.toNatClampNeg) :: rest))) : W p l e R s m args below meth c H locs cells slots Q (F0 m pc ls (.int i :: .ref (ad 35) :: rest)) := va_iald hC.1 hC.2.1 hC.2.2.2.2.1 hI.1 35 0 rfl rfl hin hdg kk
theorem gs_35 (hC : gC p c cc s m args own D cy ad A) (hI : gI D cy ad A s.heap σ H locs) {i v : Int32} (hin : vp_in i 8) (hdg : decode cc pc = .ok (.iastore, 1)) (kk : ∀ (σ1 : gS) (H1 : Heap) (locs1 : List Loc), σ1 = gu σ 42 i.toNatClampNeg v → gI D cy ad A s.heap σ1 H1 locs1 → W p l e R s m args below meth c H1 locs1 cells slots Q (F0 m (pc + 1) ls rest)) : W p l e R s m args below meth c H locs cells slots Q (F0 m pc ls (.int v :: .int i :: .ref (ad 35) :: rest)) := va_iast hC.1 hC.2.1 hC.2.2.2.2.1 hI.1 hI.2.1 hI.2.2 35 0 rfl rfl hin hdg (fun H1 locs1 hP hD hS => kk _ H1 locs1 rfl ⟨hP, hD, hS⟩)
theorem ga_36 (hC : gC p c cc s m args own D cy ad A) (hI : gI D cy ad A s.heap σ H locs) {i : Int32} (hin : vp_in i 8) (hdg : decode cc pc = .ok (.baload, 1)) (kk : W p l e R s m args below meth c H locs cells slots Q (F0 m (pc + 1) ls (.int (σ 43 i.toNatClampNeg) :: rest))) : W p l e R s m args below meth c H locs cells slots Q (F0 m pc ls (.int i :: .ref (ad 36) :: rest)) := va_zald hC.1 hC.2.1 hC.2.2.2.2.1 hI.1 36 1 rfl rfl hin hdg kk
theorem gs_36 (hC : gC p c cc s m args own D cy ad A) (hI : gI D cy ad A s.heap σ H locs) {i v : Int32} (hin : vp_in i 8) (hdg : decode cc pc = .ok (.bastore, 1)) (kk : ∀ (σ1 : gS) (H1 : Heap) (locs1 : List Loc), σ1 = gu σ 43 i.toNatClampNeg (vp_nar .boolean v) → gI D cy ad A s.heap σ1 H1 locs1 → W p l e R s m args below meth c H1 locs1 cells slots Q (F0 m (pc + 1) ls rest)) : W p l e R s m args below meth c H locs cells slots Q (F0 m pc ls (.int v :: .int i :: .ref (ad 36) :: rest)) := va_zast hC.1 hC.2.1 hC.2.2.2.2.1 hI.1 hI.2.1 hI.2.2 36 1 rfl rfl hin hdg (fun H1 locs1 hP hD hS => kk _ H1 locs1 rfl ⟨hP, hD, hS⟩)
theorem ga_37 (hC : gC p c cc s m args own D cy ad A) (hI : gI D cy ad A s.heap σ H locs) {i : Int32} (hin : vp_in i 320) (hdg : decode cc pc = .ok (.iaload, 1)) (kk : W p l e R s m args below meth c H locs cells slots Q (F0 m (pc + 1) ls (.int (σ 44 i.toNatClampNeg) :: rest))) : W p l e R s m args below meth c H locs cells slots Q (F0 m pc ls (.int i :: .ref (ad 37) :: rest)) := va_iald hC.1 hC.2.1 hC.2.2.2.2.1 hI.1 37 0 rfl rfl hin hdg kk
theorem gs_37 (hC : gC p c cc s m args own D cy ad A) (hI : gI D cy ad A s.heap σ H locs) {i v : Int32} (hin : vp_in i 320) (hdg : decode cc pc = .ok (.iastore, 1)) (kk : ∀ (σ1 : gS) (H1 : Heap) (locs1 : List Loc), σ1 = gu σ 44 i.toNatClampNeg v → gI D cy ad A s.heap σ1 H1 locs1 → W p l e R s m args below meth c H1 locs1 cells slots Q (F0 m (pc + 1) ls rest)) : W p l e R s m args below meth c H locs cells slots Q (F0 m pc ls (.int v :: .int i :: .ref (ad 37) :: rest)) := va_iast hC.1 hC.2.1 hC.2.2.2.2.1 hI.1 hI.2.1 hI.2.2 37 0 rfl rfl hin hdg (fun H1 locs1 hP hD hS => kk _ H1 locs1 rfl ⟨hP, hD, hS⟩)
theorem ga_38 (hC : gC p c cc s m args own D cy ad A) (hI : gI D cy ad A s.heap σ H locs) {i : Int32} (hin : vp_in i 320) (hdg : decode cc pc = .ok (.iaload, 1)) (kk : W p l e R s m args below meth c H locs cells slots Q (F0 m (pc + 1) ls (.int (σ 45 i.toNatClampNeg) :: rest))) : W p l e R s m args below meth c H locs cells slots Q (F0 m pc ls (.int i :: .ref (ad 38) :: rest)) := va_iald hC.1 hC.2.1 hC.2.2.2.2.1 hI.1 38 0 rfl rfl hin hdg kk
theorem gs_38 (hC : gC p c cc s m args own D cy ad A) (hI : gI D cy ad A s.heap σ H locs) {i v : Int32} (hin : vp_in i 320) (hdg : decode cc pc = .ok (.iastore, 1)) (kk : ∀ (σ1 : gS) (H1 : Heap) (locs1 : List Loc), σ1 = gu σ 45 i.toNatClampNeg v → gI D cy ad A s.heap σ1 H1 locs1 → W p l e R s m args below meth c H1 locs1 cells slots Q (F0 m (pc + 1) ls rest)) : W p l e R s m args below meth c H locs cells slots Q (F0 m pc ls (.int v :: .int i :: .ref (ad 38) :: rest)) := va_iast hC.1 hC.2.1 hC.2.2.2.2.1 hI.1 hI.2.1 hI.2.2 38 0 rfl rfl hin hdg (fun H1 locs1 hP hD hS => kk _ H1 locs1 rfl ⟨hP, hD, hS⟩)
theorem ga_39 (hC : gC p c cc s m args own D cy ad A) (hI : gI D cy ad A s.heap σ H locs) {i : Int32} (hin : vp_in i 320) (hdg : decode cc pc = .ok (.iaload, 1)) (kk : W p l e R s m args below meth c H locs cells slots Q (F0 m (pc + 1) ls (.int (σ 46 i.toNatClampNeg) :: rest))) : W p l e R s m args below meth c H locs cells slots Q (F0 m pc ls (.int i :: .ref (ad 39) :: rest)) := va_iald hC.1 hC.2.1 hC.2.2.2.2.1 hI.1 39 0 rfl rfl hin hdg kk
theorem gs_39 (hC : gC p c cc s m args own D cy ad A) (hI : gI D cy ad A s.heap σ H locs) {i v : Int32} (hin : vp_in i 320) (hdg : decode cc pc = .ok (.iastore, 1)) (kk : ∀ (σ1 : gS) (H1 : Heap) (locs1 : List Loc), σ1 = gu σ 46 i.toNatClampNeg v → gI D cy ad A s.heap σ1 H1 locs1 → W p l e R s m args below meth c H1 locs1 cells slots Q (F0 m (pc + 1) ls rest)) : W p l e R s m args below meth c H locs cells slots Q (F0 m pc ls (.int v :: .int i :: .ref (ad 39) :: rest)) := va_iast hC.1 hC.2.1 hC.2.2.2.2.1 hI.1 hI.2.1 hI.2.2 39 0 rfl rfl hin hdg (fun H1 locs1 hP hD hS => kk _ H1 locs1 rfl ⟨hP, hD, hS⟩)
theorem ga_40 (hC : gC p c cc s m args own D cy ad A) (hI : gI D cy ad A s.heap σ H locs) {i : Int32} (hin : vp_in i 6) (hdg : decode cc pc = .ok (.iaload, 1)) (kk : W p l e R s m args below meth c H locs cells slots Q (F0 m (pc + 1) ls (.int (σ 47 i.toNatClampNeg) :: rest))) : W p l e R s m args below meth c H locs cells slots Q (F0 m pc ls (.int i :: .ref (ad 40) :: rest)) := va_iald hC.1 hC.2.1 hC.2.2.2.2.1 hI.1 40 0 rfl rfl hin hdg kk
theorem gs_40 (hC : gC p c cc s m args own D cy ad A) (hI : gI D cy ad A s.heap σ H locs) {i v : Int32} (hin : vp_in i 6) (hdg : decode cc pc = .ok (.iastore, 1)) (kk : ∀ (σ1 : gS) (H1 : Heap) (locs1 : List Loc), σ1 = gu σ 47 i.toNatClampNeg v → gI D cy ad A s.heap σ1 H1 locs1 → W p l e R s m args below meth c H1 locs1 cells slots Q (F0 m (pc + 1) ls rest)) : W p l e R s m args below meth c H locs cells slots Q (F0 m pc ls (.int v :: .int i :: .ref (ad 40) :: rest)) := va_iast hC.1 hC.2.1 hC.2.2.2.2.1 hI.1 hI.2.1 hI.2.2 40 0 rfl rfl hin hdg (fun H1 locs1 hP hD hS => kk _ H1 locs1 rfl ⟨hP, hD, hS⟩)
theorem ga_41 (hC : gC p c cc s m args own D cy ad A) (hI : gI D cy ad A s.heap σ H locs) {i : Int32} (hin : vp_in i 6) (hdg : decode cc pc = .ok (.iaload, 1)) (kk : W p l e R s m args below meth c H locs cells slots Q (F0 m (pc + 1) ls (.int (σ 48 i.toNatClampNeg) :: rest))) : W p l e R s m args below meth c H locs cells slots Q (F0 m pc ls (.int i :: .ref (ad 41) :: rest)) := va_iald hC.1 hC.2.1 hC.2.2.2.2.1 hI.1 41 0 rfl rfl hin hdg kk
theorem gs_41 (hC : gC p c cc s m args own D cy ad A) (hI : gI D cy ad A s.heap σ H locs) {i v : Int32} (hin : vp_in i 6) (hdg : decode cc pc = .ok (.iastore, 1)) (kk : ∀ (σ1 : gS) (H1 : Heap) (locs1 : List Loc), σ1 = gu σ 48 i.toNatClampNeg v → gI D cy ad A s.heap σ1 H1 locs1 → W p l e R s m args below meth c H1 locs1 cells slots Q (F0 m (pc + 1) ls rest)) : W p l e R s m args below meth c H locs cells slots Q (F0 m pc ls (.int v :: .int i :: .ref (ad 41) :: rest)) := va_iast hC.1 hC.2.1 hC.2.2.2.2.1 hI.1 hI.2.1 hI.2.2 41 0 rfl rfl hin hdg (fun H1 locs1 hP hD hS => kk _ H1 locs1 rfl ⟨hP, hD, hS⟩)
theorem ga_42 (hC : gC p c cc s m args own D cy ad A) (hI : gI D cy ad A s.heap σ H locs) {i : Int32} (hin : vp_in i 6) (hdg : decode cc pc = .ok (.iaload, 1)) (kk : W p l e R s m args below meth c H locs cells slots Q (F0 m (pc + 1) ls (.int (σ 49 i.toNatClampNeg) :: rest))) : W p l e R s m args below meth c H locs cells slots Q (F0 m pc ls (.int i :: .ref (ad 42) :: rest)) := va_iald hC.1 hC.2.1 hC.2.2.2.2.1 hI.1 42 0 rfl rfl hin hdg kk
theorem gs_42 (hC : gC p c cc s m args own D cy ad A) (hI : gI D cy ad A s.heap σ H locs) {i v : Int32} (hin : vp_in i 6) (hdg : decode cc pc = .ok (.iastore, 1)) (kk : ∀ (σ1 : gS) (H1 : Heap) (locs1 : List Loc), σ1 = gu σ 49 i.toNatClampNeg v → gI D cy ad A s.heap σ1 H1 locs1 → W p l e R s m args below meth c H1 locs1 cells slots Q (F0 m (pc + 1) ls rest)) : W p l e R s m args below meth c H locs cells slots Q (F0 m pc ls (.int v :: .int i :: .ref (ad 42) :: rest)) := va_iast hC.1 hC.2.1 hC.2.2.2.2.1 hI.1 hI.2.1 hI.2.2 42 0 rfl rfl hin hdg (fun H1 locs1 hP hD hS => kk _ H1 locs1 rfl ⟨hP, hD, hS⟩)
theorem ga_43 (hC : gC p c cc s m args own D cy ad A) (hI : gI D cy ad A s.heap σ H locs) {i : Int32} (hin : vp_in i 6) (hdg : decode cc pc = .ok (.iaload, 1)) (kk : W p l e R s m args below meth c H locs cells slots Q (F0 m (pc + 1) ls (.int (σ 50 i.toNatClampNeg) :: rest))) : W p l e R s m args below meth c H locs cells slots Q (F0 m pc ls (.int i :: .ref (ad 43) :: rest)) := va_iald hC.1 hC.2.1 hC.2.2.2.2.1 hI.1 43 0 rfl rfl hin hdg kk
theorem gs_43 (hC : gC p c cc s m args own D cy ad A) (hI : gI D cy ad A s.heap σ H locs) {i v : Int32} (hin : vp_in i 6) (hdg : decode cc pc = .ok (.iastore, 1)) (kk : ∀ (σ1 : gS) (H1 : Heap) (locs1 : List Loc), σ1 = gu σ 50 i.toNatClampNeg v → gI D cy ad A s.heap σ1 H1 locs1 → W p l e R s m args below meth c H1 locs1 cells slots Q (F0 m (pc + 1) ls rest)) : W p l e R s m args below meth c H locs cells slots Q (F0 m pc ls (.int v :: .int i :: .ref (ad 43) :: rest)) := va_iast hC.1 hC.2.1 hC.2.2.2.2.1 hI.1 hI.2.1 hI.2.2 43 0 rfl rfl hin hdg (fun H1 locs1 hP hD hS => kk _ H1 locs1 rfl ⟨hP, hD, hS⟩)
theorem ga_44 (hC : gC p c cc s m args own D cy ad A) (hI : gI D cy ad A s.heap σ H locs) {i : Int32} (hin : vp_in i 6) (hdg : decode cc pc = .ok (.iaload, 1)) (kk : W p l e R s m args below meth c H locs cells slots Q (F0 m (pc + 1) ls (.int (σ 52 i.toNatClampNeg) :: rest))) : W p l e R s m args below meth c H locs cells slots Q (F0 m pc ls (.int i :: .ref (ad 44) :: rest)) := va_iald hC.1 hC.2.1 hC.2.2.2.2.1 hI.1 44 0 rfl rfl hin hdg kk
theorem gs_44 (hC : gC p c cc s m args own D cy ad A) (hI : gI D cy ad A s.heap σ H locs) {i v : Int32} (hin : vp_in i 6) (hdg : decode cc pc = .ok (.iastore, 1)) (kk : ∀ (σ1 : gS) (H1 : Heap) (locs1 : List Loc), σ1 = gu σ 52 i.toNatClampNeg v → gI D cy ad A s.heap σ1 H1 locs1 → W p l e R s m args below meth c H1 locs1 cells slots Q (F0 m (pc + 1) ls rest)) : W p l e R s m args below meth c H locs cells slots Q (F0 m pc ls (.int v :: .int i :: .ref (ad 44) :: rest)) := va_iast hC.1 hC.2.1 hC.2.2.2.2.1 hI.1 hI.2.1 hI.2.2 44 0 rfl rfl hin hdg (fun H1 locs1 hP hD hS => kk _ H1 locs1 rfl ⟨hP, hD, hS⟩)
theorem ga_45 (hC : gC p c cc s m args own D cy ad A) (hI : gI D cy ad A s.heap σ H locs) {i : Int32} (hin : vp_in i 6) (hdg : decode cc pc = .ok (.iaload, 1)) (kk : W p l e R s m args below meth c H locs cells slots Q (F0 m (pc + 1) ls (.int (σ 53 i.toNatClampNeg) :: rest))) : W p l e R s m args below meth c H locs cells slots Q (F0 m pc ls (.int i :: .ref (ad 45) :: rest)) := va_iald hC.1 hC.2.1 hC.2.2.2.2.1 hI.1 45 0 rfl rfl hin hdg kk
theorem gs_45 (hC : gC p c cc s m args own D cy ad A) (hI : gI D cy ad A s.heap σ H locs) {i v : Int32} (hin : vp_in i 6) (hdg : decode cc pc = .ok (.iastore, 1)) (kk : ∀ (σ1 : gS) (H1 : Heap) (locs1 : List Loc), σ1 = gu σ 53 i.toNatClampNeg v → gI D cy ad A s.heap σ1 H1 locs1 → W p l e R s m args below meth c H1 locs1 cells slots Q (F0 m (pc + 1) ls rest)) : W p l e R s m args below meth c H locs cells slots Q (F0 m pc ls (.int v :: .int i :: .ref (ad 45) :: rest)) := va_iast hC.1 hC.2.1 hC.2.2.2.2.1 hI.1 hI.2.1 hI.2.2 45 0 rfl rfl hin hdg (fun H1 locs1 hP hD hS => kk _ H1 locs1 rfl ⟨hP, hD, hS⟩)
theorem ga_46 (hC : gC p c cc s m args own D cy ad A) (hI : gI D cy ad A s.heap σ H locs) {i : Int32} (hin : vp_in i 200) (hdg : decode cc pc = .ok (.iaload, 1)) (kk : W p l e R s m args below meth c H locs cells slots Q (F0 m (pc + 1) ls (.int (σ 57 i.toNatClampNeg) :: rest))) : W p l e R s m args below meth c H locs cells slots Q (F0 m pc ls (.int i :: .ref (ad 46) :: rest)) := va_iald hC.1 hC.2.1 hC.2.2.2.2.1 hI.1 46 0 rfl rfl hin hdg kk
theorem gs_46 (hC : gC p c cc s m args own D cy ad A) (hI : gI D cy ad A s.heap σ H locs) {i v : Int32} (hin : vp_in i 200) (hdg : decode cc pc = .ok (.iastore, 1)) (kk : ∀ (σ1 : gS) (H1 : Heap) (locs1 : List Loc), σ1 = gu σ 57 i.toNatClampNeg v → gI D cy ad A s.heap σ1 H1 locs1 → W p l e R s m args below meth c H1 locs1 cells slots Q (F0 m (pc + 1) ls rest)) : W p l e R s m args below meth c H locs cells slots Q (F0 m pc ls (.int v :: .int i :: .ref (ad 46) :: rest)) := va_iast hC.1 hC.2.1 hC.2.2.2.2.1 hI.1 hI.2.1 hI.2.2 46 0 rfl rfl hin hdg (fun H1 locs1 hP hD hS => kk _ H1 locs1 rfl ⟨hP, hD, hS⟩)
theorem ga_47 (hC : gC p c cc s m args own D cy ad A) (hI : gI D cy ad A s.heap σ H locs) {i : Int32} (hin : vp_in i 200) (hdg : decode cc pc = .ok (.baload, 1)) (kk : W p l e R s m args below meth c H locs cells slots Q (F0 m (pc + 1) ls (.int (σ 58 i.toNatClampNeg) :: rest))) : W p l e R s m args below meth c H locs cells slots Q (F0 m pc ls (.int i :: .ref (ad 47) :: rest)) := va_zald hC.1 hC.2.1 hC.2.2.2.2.1 hI.1 47 1 rfl rfl hin hdg kk
theorem gs_47 (hC : gC p c cc s m args own D cy ad A) (hI : gI D cy ad A s.heap σ H locs) {i v : Int32} (hin : vp_in i 200) (hdg : decode cc pc = .ok (.bastore, 1)) (kk : ∀ (σ1 : gS) (H1 : Heap) (locs1 : List Loc), σ1 = gu σ 58 i.toNatClampNeg (vp_nar .boolean v) → gI D cy ad A s.heap σ1 H1 locs1 → W p l e R s m args below meth c H1 locs1 cells slots Q (F0 m (pc + 1) ls rest)) : W p l e R s m args below meth c H locs cells slots Q (F0 m pc ls (.int v :: .int i :: .ref (ad 47) :: rest)) := va_zast hC.1 hC.2.1 hC.2.2.2.2.1 hI.1 hI.2.1 hI.2.2 47 1 rfl rfl hin hdg (fun H1 locs1 hP hD hS => kk _ H1 locs1 rfl ⟨hP, hD, hS⟩)
theorem ga_48 (hC : gC p c cc s m args own D cy ad A) (hI : gI D cy ad A s.heap σ H locs) {i : Int32} (hin : vp_in i 200) (hdg : decode cc pc = .ok (.iaload, 1)) (kk : W p l e R s m args below meth c H locs cells slots Q (F0 m (pc + 1) ls (.int (σ 59 i.toNatClampNeg) :: rest))) : W p l e R s m args below meth c H locs cells slots Q (F0 m pc ls (.int i :: .ref (ad 48) :: rest)) := va_iald hC.1 hC.2.1 hC.2.2.2.2.1 hI.1 48 0 rfl rfl hin hdg kk
theorem gs_48 (hC : gC p c cc s m args own D cy ad A) (hI : gI D cy ad A s.heap σ H locs) {i v : Int32} (hin : vp_in i 200) (hdg : decode cc pc = .ok (.iastore, 1)) (kk : ∀ (σ1 : gS) (H1 : Heap) (locs1 : List Loc), σ1 = gu σ 59 i.toNatClampNeg v → gI D cy ad A s.heap σ1 H1 locs1 → W p l e R s m args below meth c H1 locs1 cells slots Q (F0 m (pc + 1) ls rest)) : W p l e R s m args below meth c H locs cells slots Q (F0 m pc ls (.int v :: .int i :: .ref (ad 48) :: rest)) := va_iast hC.1 hC.2.1 hC.2.2.2.2.1 hI.1 hI.2.1 hI.2.2 48 0 rfl rfl hin hdg (fun H1 locs1 hP hD hS => kk _ H1 locs1 rfl ⟨hP, hD, hS⟩)
theorem ga_49 (hC : gC p c cc s m args own D cy ad A) (hI : gI D cy ad A s.heap σ H locs) {i : Int32} (hin : vp_in i 200) (hdg : decode cc pc = .ok (.iaload, 1)) (kk : W p l e R s m args below meth c H locs cells slots Q (F0 m (pc + 1) ls (.int (σ 60 i.toNatClampNeg) :: rest))) : W p l e R s m args below meth c H locs cells slots Q (F0 m pc ls (.int i :: .ref (ad 49) :: rest)) := va_iald hC.1 hC.2.1 hC.2.2.2.2.1 hI.1 49 0 rfl rfl hin hdg kk
theorem gs_49 (hC : gC p c cc s m args own D cy ad A) (hI : gI D cy ad A s.heap σ H locs) {i v : Int32} (hin : vp_in i 200) (hdg : decode cc pc = .ok (.iastore, 1)) (kk : ∀ (σ1 : gS) (H1 : Heap) (locs1 : List Loc), σ1 = gu σ 60 i.toNatClampNeg v → gI D cy ad A s.heap σ1 H1 locs1 → W p l e R s m args below meth c H1 locs1 cells slots Q (F0 m (pc + 1) ls rest)) : W p l e R s m args below meth c H locs cells slots Q (F0 m pc ls (.int v :: .int i :: .ref (ad 49) :: rest)) := va_iast hC.1 hC.2.1 hC.2.2.2.2.1 hI.1 hI.2.1 hI.2.2 49 0 rfl rfl hin hdg (fun H1 locs1 hP hD hS => kk _ H1 locs1 rfl ⟨hP, hD, hS⟩)
theorem ga_50 (hC : gC p c cc s m args own D cy ad A) (hI : gI D cy ad A s.heap σ H locs) {i : Int32} (hin : vp_in i 200) (hdg : decode cc pc = .ok (.iaload, 1)) (kk : W p l e R s m args below meth c H locs cells slots Q (F0 m (pc + 1) ls (.int (σ 61 i.toNatClampNeg) :: rest))) : W p l e R s m args below meth c H locs cells slots Q (F0 m pc ls (.int i :: .ref (ad 50) :: rest)) := va_iald hC.1 hC.2.1 hC.2.2.2.2.1 hI.1 50 0 rfl rfl hin hdg kk
theorem gs_50 (hC : gC p c cc s m args own D cy ad A) (hI : gI D cy ad A s.heap σ H locs) {i v : Int32} (hin : vp_in i 200) (hdg : decode cc pc = .ok (.iastore, 1)) (kk : ∀ (σ1 : gS) (H1 : Heap) (locs1 : List Loc), σ1 = gu σ 61 i.toNatClampNeg v → gI D cy ad A s.heap σ1 H1 locs1 → W p l e R s m args below meth c H1 locs1 cells slots Q (F0 m (pc + 1) ls rest)) : W p l e R s m args below meth c H locs cells slots Q (F0 m pc ls (.int v :: .int i :: .ref (ad 50) :: rest)) := va_iast hC.1 hC.2.1 hC.2.2.2.2.1 hI.1 hI.2.1 hI.2.2 50 0 rfl rfl hin hdg (fun H1 locs1 hP hD hS => kk _ H1 locs1 rfl ⟨hP, hD, hS⟩)
theorem ga_51 (hC : gC p c cc s m args own D cy ad A) (hI : gI D cy ad A s.heap σ H locs) {i : Int32} (hin : vp_in i 192) (hdg : decode cc pc = .ok (.iaload, 1)) (kk : W p l e R s m args below meth c H locs cells slots Q (F0 m (pc + 1) ls (.int (σ 64 i.toNatClampNeg) :: rest))) : W p l e R s m args below meth c H locs cells slots Q (F0 m pc ls (.int i :: .ref (ad 51) :: rest)) := va_iald hC.1 hC.2.1 hC.2.2.2.2.1 hI.1 51 0 rfl rfl hin hdg kk
theorem gs_51 (hC : gC p c cc s m args own D cy ad A) (hI : gI D cy ad A s.heap σ H locs) {i v : Int32} (hin : vp_in i 192) (hdg : decode cc pc = .ok (.iastore, 1)) (kk : ∀ (σ1 : gS) (H1 : Heap) (locs1 : List Loc), σ1 = gu σ 64 i.toNatClampNeg v → gI D cy ad A s.heap σ1 H1 locs1 → W p l e R s m args below meth c H1 locs1 cells slots Q (F0 m (pc + 1) ls rest)) : W p l e R s m args below meth c H locs cells slots Q (F0 m pc ls (.int v :: .int i :: .ref (ad 51) :: rest)) := va_iast hC.1 hC.2.1 hC.2.2.2.2.1 hI.1 hI.2.1 hI.2.2 51 0 rfl rfl hin hdg (fun H1 locs1 hP hD hS => kk _ H1 locs1 rfl ⟨hP, hD, hS⟩)
theorem ga_52 (hC : gC p c cc s m args own D cy ad A) (hI : gI D cy ad A s.heap σ H locs) {i : Int32} (hin : vp_in i 60) (hdg : decode cc pc = .ok (.baload, 1)) (kk : W p l e R s m args below meth c H locs cells slots Q (F0 m (pc + 1) ls (.int (σ 65 i.toNatClampNeg) :: rest))) : W p l e R s m args below meth c H locs cells slots Q (F0 m pc ls (.int i :: .ref (ad 52) :: rest)) := va_zald hC.1 hC.2.1 hC.2.2.2.2.1 hI.1 52 1 rfl rfl hin hdg kk
theorem gs_52 (hC : gC p c cc s m args own D cy ad A) (hI : gI D cy ad A s.heap σ H locs) {i v : Int32} (hin : vp_in i 60) (hdg : decode cc pc = .ok (.bastore, 1)) (kk : ∀ (σ1 : gS) (H1 : Heap) (locs1 : List Loc), σ1 = gu σ 65 i.toNatClampNeg (vp_nar .boolean v) → gI D cy ad A s.heap σ1 H1 locs1 → W p l e R s m args below meth c H1 locs1 cells slots Q (F0 m (pc + 1) ls rest)) : W p l e R s m args below meth c H locs cells slots Q (F0 m pc ls (.int v :: .int i :: .ref (ad 52) :: rest)) := va_zast hC.1 hC.2.1 hC.2.2.2.2.1 hI.1 hI.2.1 hI.2.2 52 1 rfl rfl hin hdg (fun H1 locs1 hP hD hS => kk _ H1 locs1 rfl ⟨hP, hD, hS⟩)
theorem ga_53 (hC : gC p c cc s m args own D cy ad A) (hI : gI D cy ad A s.heap σ H locs) {i : Int32} (hin : vp_in i 8) (hdg : decode cc pc = .ok (.iaload, 1)) (kk : W p l e R s m args below meth c H locs cells slots Q (F0 m (pc + 1) ls (.int (σ 68 i.toNatClampNeg) :: rest))) : W p l e R s m args below meth c H locs cells slots Q (F0 m pc ls (.int i :: .ref (ad 53) :: rest)) := va_iald hC.1 hC.2.1 hC.2.2.2.2.1 hI.1 53 0 rfl rfl hin hdg kk
theorem gs_53 (hC : gC p c cc s m args own D cy ad A) (hI : gI D cy ad A s.heap σ H locs) {i v : Int32} (hin : vp_in i 8) (hdg : decode cc pc = .ok (.iastore, 1)) (kk : ∀ (σ1 : gS) (H1 : Heap) (locs1 : List Loc), σ1 = gu σ 68 i.toNatClampNeg v → gI D cy ad A s.heap σ1 H1 locs1 → W p l e R s m args below meth c H1 locs1 cells slots Q (F0 m (pc + 1) ls rest)) : W p l e R s m args below meth c H locs cells slots Q (F0 m pc ls (.int v :: .int i :: .ref (ad 53) :: rest)) := va_iast hC.1 hC.2.1 hC.2.2.2.2.1 hI.1 hI.2.1 hI.2.2 53 0 rfl rfl hin hdg (fun H1 locs1 hP hD hS => kk _ H1 locs1 rfl ⟨hP, hD, hS⟩)
theorem ga_54 (hC : gC p c cc s m args own D cy ad A) (hI : gI D cy ad A s.heap σ H locs) {i : Int32} (hin : vp_in i 8) (hdg : decode cc pc = .ok (.iaload, 1)) (kk : W p l e R s m args below meth c H locs cells slots Q (F0 m (pc + 1) ls (.int (σ 69 i.toNatClampNeg) :: rest))) : W p l e R s m args below meth c H locs cells slots Q (F0 m pc ls (.int i :: .ref (ad 54) :: rest)) := va_iald hC.1 hC.2.1 hC.2.2.2.2.1 hI.1 54 0 rfl rfl hin hdg kk
theorem gs_54 (hC : gC p c cc s m args own D cy ad A) (hI : gI D cy ad A s.heap σ H locs) {i v : Int32} (hin : vp_in i 8) (hdg : decode cc pc = .ok (.iastore, 1)) (kk : ∀ (σ1 : gS) (H1 : Heap) (locs1 : List Loc), σ1 = gu σ 69 i.toNatClampNeg v → gI D cy ad A s.heap σ1 H1 locs1 → W p l e R s m args below meth c H1 locs1 cells slots Q (F0 m (pc + 1) ls rest)) : W p l e R s m args below meth c H locs cells slots Q (F0 m pc ls (.int v :: .int i :: .ref (ad 54) :: rest)) := va_iast hC.1 hC.2.1 hC.2.2.2.2.1 hI.1 hI.2.1 hI.2.2 54 0 rfl rfl hin hdg (fun H1 locs1 hP hD hS => kk _ H1 locs1 rfl ⟨hP, hD, hS⟩)
theorem ga_55 (hC : gC p c cc s m args own D cy ad A) (hI : gI D cy ad A s.heap σ H locs) {i : Int32} (hin : vp_in i 8) (hdg : decode cc pc = .ok (.baload, 1)) (kk : W p l e R s m args below meth c H locs cells slots Q (F0 m (pc + 1) ls (.int (σ 70 i.toNatClampNeg) :: rest))) : W p l e R s m args below meth c H locs cells slots Q (F0 m pc ls (.int i :: .ref (ad 55) :: rest)) := va_zald hC.1 hC.2.1 hC.2.2.2.2.1 hI.1 55 1 rfl rfl hin hdg kk
theorem gs_55 (hC : gC p c cc s m args own D cy ad A) (hI : gI D cy ad A s.heap σ H locs) {i v : Int32} (hin : vp_in i 8) (hdg : decode cc pc = .ok (.bastore, 1)) (kk : ∀ (σ1 : gS) (H1 : Heap) (locs1 : List Loc), σ1 = gu σ 70 i.toNatClampNeg (vp_nar .boolean v) → gI D cy ad A s.heap σ1 H1 locs1 → W p l e R s m args below meth c H1 locs1 cells slots Q (F0 m (pc + 1) ls rest)) : W p l e R s m args below meth c H locs cells slots Q (F0 m pc ls (.int v :: .int i :: .ref (ad 55) :: rest)) := va_zast hC.1 hC.2.1 hC.2.2.2.2.1 hI.1 hI.2.1 hI.2.2 55 1 rfl rfl hin hdg (fun H1 locs1 hP hD hS => kk _ H1 locs1 rfl ⟨hP, hD, hS⟩)
theorem ga_56 (hC : gC p c cc s m args own D cy ad A) (hI : gI D cy ad A s.heap σ H locs) {i : Int32} (hin : vp_in i 28) (hdg : decode cc pc = .ok (.iaload, 1)) (kk : W p l e R s m args below meth c H locs cells slots Q (F0 m (pc + 1) ls (.int (σ 72 i.toNatClampNeg) :: rest))) : W p l e R s m args below meth c H locs cells slots Q (F0 m pc ls (.int i :: .ref (ad 56) :: rest)) := va_iald hC.1 hC.2.1 hC.2.2.2.2.1 hI.1 56 0 rfl rfl hin hdg kk
theorem gs_56 (hC : gC p c cc s m args own D cy ad A) (hI : gI D cy ad A s.heap σ H locs) {i v : Int32} (hin : vp_in i 28) (hdg : decode cc pc = .ok (.iastore, 1)) (kk : ∀ (σ1 : gS) (H1 : Heap) (locs1 : List Loc), σ1 = gu σ 72 i.toNatClampNeg v → gI D cy ad A s.heap σ1 H1 locs1 → W p l e R s m args below meth c H1 locs1 cells slots Q (F0 m (pc + 1) ls rest)) : W p l e R s m args below meth c H locs cells slots Q (F0 m pc ls (.int v :: .int i :: .ref (ad 56) :: rest)) := va_iast hC.1 hC.2.1 hC.2.2.2.2.1 hI.1 hI.2.1 hI.2.2 56 0 rfl rfl hin hdg (fun H1 locs1 hP hD hS => kk _ H1 locs1 rfl ⟨hP, hD, hS⟩)
theorem ga_57 (hC : gC p c cc s m args own D cy ad A) (hI : gI D cy ad A s.heap σ H locs) {i : Int32} (hin : vp_in i 28) (hdg : decode cc pc = .ok (.iaload, 1)) (kk : W p l e R s m args below meth c H locs cells slots Q (F0 m (pc + 1) ls (.int (σ 73 i.toNatClampNeg) :: rest))) : W p l e R s m args below meth c H locs cells slots Q (F0 m pc ls (.int i :: .ref (ad 57) :: rest)) := va_iald hC.1 hC.2.1 hC.2.2.2.2.1 hI.1 57 0 rfl rfl hin hdg kk
theorem gs_57 (hC : gC p c cc s m args own D cy ad A) (hI : gI D cy ad A s.heap σ H locs) {i v : Int32} (hin : vp_in i 28) (hdg : decode cc pc = .ok (.iastore, 1)) (kk : ∀ (σ1 : gS) (H1 : Heap) (locs1 : List Loc), σ1 = gu σ 73 i.toNatClampNeg v → gI D cy ad A s.heap σ1 H1 locs1 → W p l e R s m args below meth c H1 locs1 cells slots Q (F0 m (pc + 1) ls rest)) : W p l e R s m args below meth c H locs cells slots Q (F0 m pc ls (.int v :: .int i :: .ref (ad 57) :: rest)) := va_iast hC.1 hC.2.1 hC.2.2.2.2.1 hI.1 hI.2.1 hI.2.2 57 0 rfl rfl hin hdg (fun H1 locs1 hP hD hS => kk _ H1 locs1 rfl ⟨hP, hD, hS⟩)
theorem ga_58 (hC : gC p c cc s m args own D cy ad A) (hI : gI D cy ad A s.heap σ H locs) {i : Int32} (hin : vp_in i 28) (hdg : decode cc pc = .ok (.iaload, 1)) (kk : W p l e R s m args below meth c H locs cells slots Q (F0 m (pc + 1) ls (.int (σ 74 i.toNatClampNeg) :: rest))) : W p l e R s m args below meth c H locs cells slots Q (F0 m pc ls (.int i :: .ref (ad 58) :: rest)) := va_iald hC.1 hC.2.1 hC.2.2.2.2.1 hI.1 58 0 rfl rfl hin hdg kk
theorem gs_58 (hC : gC p c cc s m args own D cy ad A) (hI : gI D cy ad A s.heap σ H locs) {i v : Int32} (hin : vp_in i 28) (hdg : decode cc pc = .ok (.iastore, 1)) (kk : ∀ (σ1 : gS) (H1 : Heap) (locs1 : List Loc), σ1 = gu σ 74 i.toNatClampNeg v → gI D cy ad A s.heap σ1 H1 locs1 → W p l e R s m args below meth c H1 locs1 cells slots Q (F0 m (pc + 1) ls rest)) : W p l e R s m args below meth c H locs cells slots Q (F0 m pc ls (.int v :: .int i :: .ref (ad 58) :: rest)) := va_iast hC.1 hC.2.1 hC.2.2.2.2.1 hI.1 hI.2.1 hI.2.2 58 0 rfl rfl hin hdg (fun H1 locs1 hP hD hS => kk _ H1 locs1 rfl ⟨hP, hD, hS⟩)
theorem ga_59 (hC : gC p c cc s m args own D cy ad A) (hI : gI D cy ad A s.heap σ H locs) {i : Int32} (hin : vp_in i 28) (hdg : decode cc pc = .ok (.iaload, 1)) (kk : W p l e R s m args below meth c H locs cells slots Q (F0 m (pc + 1) ls (.int (σ 75 i.toNatClampNeg) :: rest))) : W p l e R s m args below meth c H locs cells slots Q (F0 m pc ls (.int i :: .ref (ad 59) :: rest)) := va_iald hC.1 hC.2.1 hC.2.2.2.2.1 hI.1 59 0 rfl rfl hin hdg kk
theorem gs_59 (hC : gC p c cc s m args own D cy ad A) (hI : gI D cy ad A s.heap σ H locs) {i v : Int32} (hin : vp_in i 28) (hdg : decode cc pc = .ok (.iastore, 1)) (kk : ∀ (σ1 : gS) (H1 : Heap) (locs1 : List Loc), σ1 = gu σ 75 i.toNatClampNeg v → gI D cy ad A s.heap σ1 H1 locs1 → W p l e R s m args below meth c H1 locs1 cells slots Q (F0 m (pc + 1) ls rest)) : W p l e R s m args below meth c H locs cells slots Q (F0 m pc ls (.int v :: .int i :: .ref (ad 59) :: rest)) := va_iast hC.1 hC.2.1 hC.2.2.2.2.1 hI.1 hI.2.1 hI.2.2 59 0 rfl rfl hin hdg (fun H1 locs1 hP hD hS => kk _ H1 locs1 rfl ⟨hP, hD, hS⟩)
theorem ga_60 (hC : gC p c cc s m args own D cy ad A) (hI : gI D cy ad A s.heap σ H locs) {i : Int32} (hin : vp_in i 320) (hdg : decode cc pc = .ok (.iaload, 1)) (kk : W p l e R s m args below meth c H locs cells slots Q (F0 m (pc + 1) ls (.int (σ 77 i.toNatClampNeg) :: rest))) : W p l e R s m args below meth c H locs cells slots Q (F0 m pc ls (.int i :: .ref (ad 60) :: rest)) := va_iald hC.1 hC.2.1 hC.2.2.2.2.1 hI.1 60 0 rfl rfl hin hdg kk
theorem gs_60 (hC : gC p c cc s m args own D cy ad A) (hI : gI D cy ad A s.heap σ H locs) {i v : Int32} (hin : vp_in i 320) (hdg : decode cc pc = .ok (.iastore, 1)) (kk : ∀ (σ1 : gS) (H1 : Heap) (locs1 : List Loc), σ1 = gu σ 77 i.toNatClampNeg v → gI D cy ad A s.heap σ1 H1 locs1 → W p l e R s m args below meth c H1 locs1 cells slots Q (F0 m (pc + 1) ls rest)) : W p l e R s m args below meth c H locs cells slots Q (F0 m pc ls (.int v :: .int i :: .ref (ad 60) :: rest)) := va_iast hC.1 hC.2.1 hC.2.2.2.2.1 hI.1 hI.2.1 hI.2.2 60 0 rfl rfl hin hdg (fun H1 locs1 hP hD hS => kk _ H1 locs1 rfl ⟨hP, hD, hS⟩)
theorem ga_61 (hC : gC p c cc s m args own D cy ad A) (hI : gI D cy ad A s.heap σ H locs) {i : Int32} (hin : vp_in i 1120) (hdg : decode cc pc = .ok (.iaload, 1)) (kk : W p l e R s m args below meth c H locs cells slots Q (F0 m (pc + 1) ls (.int (σ 78 i.toNatClampNeg) :: rest))) : W p l e R s m args below meth c H locs cells slots Q (F0 m pc ls (.int i :: .ref (ad 61) :: rest)) := va_iald hC.1 hC.2.1 hC.2.2.2.2.1 hI.1 61 0 rfl rfl hin hdg kk
theorem gs_61 (hC : gC p c cc s m args own D cy ad A) (hI : gI D cy ad A s.heap σ H locs) {i v : Int32} (hin : vp_in i 1120) (hdg : decode cc pc = .ok (.iastore, 1)) (kk : ∀ (σ1 : gS) (H1 : Heap) (locs1 : List Loc), σ1 = gu σ 78 i.toNatClampNeg v → gI D cy ad A s.heap σ1 H1 locs1 → W p l e R s m args below meth c H1 locs1 cells slots Q (F0 m (pc + 1) ls rest)) : W p l e R s m args below meth c H locs cells slots Q (F0 m pc ls (.int v :: .int i :: .ref (ad 61) :: rest)) := va_iast hC.1 hC.2.1 hC.2.2.2.2.1 hI.1 hI.2.1 hI.2.2 61 0 rfl rfl hin hdg (fun H1 locs1 hP hD hS => kk _ H1 locs1 rfl ⟨hP, hD, hS⟩)
theorem ga_62 (hC : gC p c cc s m args own D cy ad A) (hI : gI D cy ad A s.heap σ H locs) {i : Int32} (hin : vp_in i 320) (hdg : decode cc pc = .ok (.iaload, 1)) (kk : W p l e R s m args below meth c H locs cells slots Q (F0 m (pc + 1) ls (.int (σ 79 i.toNatClampNeg) :: rest))) : W p l e R s m args below meth c H locs cells slots Q (F0 m pc ls (.int i :: .ref (ad 62) :: rest)) := va_iald hC.1 hC.2.1 hC.2.2.2.2.1 hI.1 62 0 rfl rfl hin hdg kk
theorem gs_62 (hC : gC p c cc s m args own D cy ad A) (hI : gI D cy ad A s.heap σ H locs) {i v : Int32} (hin : vp_in i 320) (hdg : decode cc pc = .ok (.iastore, 1)) (kk : ∀ (σ1 : gS) (H1 : Heap) (locs1 : List Loc), σ1 = gu σ 79 i.toNatClampNeg v → gI D cy ad A s.heap σ1 H1 locs1 → W p l e R s m args below meth c H1 locs1 cells slots Q (F0 m (pc + 1) ls rest)) : W p l e R s m args below meth c H locs cells slots Q (F0 m pc ls (.int v :: .int i :: .ref (ad 62) :: rest)) := va_iast hC.1 hC.2.1 hC.2.2.2.2.1 hI.1 hI.2.1 hI.2.2 62 0 rfl rfl hin hdg (fun H1 locs1 hP hD hS => kk _ H1 locs1 rfl ⟨hP, hD, hS⟩)
theorem ga_63 (hC : gC p c cc s m args own D cy ad A) (hI : gI D cy ad A s.heap σ H locs) {i : Int32} (hin : vp_in i 8) (hdg : decode cc pc = .ok (.iaload, 1)) (kk : W p l e R s m args below meth c H locs cells slots Q (F0 m (pc + 1) ls (.int (σ 80 i.toNatClampNeg) :: rest))) : W p l e R s m args below meth c H locs cells slots Q (F0 m pc ls (.int i :: .ref (ad 63) :: rest)) := va_iald hC.1 hC.2.1 hC.2.2.2.2.1 hI.1 63 0 rfl rfl hin hdg kk
theorem gs_63 (hC : gC p c cc s m args own D cy ad A) (hI : gI D cy ad A s.heap σ H locs) {i v : Int32} (hin : vp_in i 8) (hdg : decode cc pc = .ok (.iastore, 1)) (kk : ∀ (σ1 : gS) (H1 : Heap) (locs1 : List Loc), σ1 = gu σ 80 i.toNatClampNeg v → gI D cy ad A s.heap σ1 H1 locs1 → W p l e R s m args below meth c H1 locs1 cells slots Q (F0 m (pc + 1) ls rest)) : W p l e R s m args below meth c H locs cells slots Q (F0 m pc ls (.int v :: .int i :: .ref (ad 63) :: rest)) := va_iast hC.1 hC.2.1 hC.2.2.2.2.1 hI.1 hI.2.1 hI.2.2 63 0 rfl rfl hin hdg (fun H1 locs1 hP hD hS => kk _ H1 locs1 rfl ⟨hP, hD, hS⟩)
theorem ga_64 (hC : gC p c cc s m args own D cy ad A) (hI : gI D cy ad A s.heap σ H locs) {i : Int32} (hin : vp_in i 320) (hdg : decode cc pc = .ok (.iaload, 1)) (kk : W p l e R s m args below meth c H locs cells slots Q (F0 m (pc + 1) ls (.int (σ 81 i.toNatClampNeg) :: rest))) : W p l e R s m args below meth c H locs cells slots Q (F0 m pc ls (.int i :: .ref (ad 64) :: rest)) := va_iald hC.1 hC.2.1 hC.2.2.2.2.1 hI.1 64 0 rfl rfl hin hdg kk
theorem gs_64 (hC : gC p c cc s m args own D cy ad A) (hI : gI D cy ad A s.heap σ H locs) {i v : Int32} (hin : vp_in i 320) (hdg : decode cc pc = .ok (.iastore, 1)) (kk : ∀ (σ1 : gS) (H1 : Heap) (locs1 : List Loc), σ1 = gu σ 81 i.toNatClampNeg v → gI D cy ad A s.heap σ1 H1 locs1 → W p l e R s m args below meth c H1 locs1 cells slots Q (F0 m (pc + 1) ls rest)) : W p l e R s m args below meth c H locs cells slots Q (F0 m pc ls (.int v :: .int i :: .ref (ad 64) :: rest)) := va_iast hC.1 hC.2.1 hC.2.2.2.2.1 hI.1 hI.2.1 hI.2.2 64 0 rfl rfl hin hdg (fun H1 locs1 hP hD hS => kk _ H1 locs1 rfl ⟨hP, hD, hS⟩)
theorem ga_65 (hC : gC p c cc s m args own D cy ad A) (hI : gI D cy ad A s.heap σ H locs) {i : Int32} (hin : vp_in i 320) (hdg : decode cc pc = .ok (.iaload, 1)) (kk : W p l e R s m args below meth c H locs cells slots Q (F0 m (pc + 1) ls (.int (σ 82 i.toNatClampNeg) :: rest))) : W p l e R s m args below meth c H locs cells slots Q (F0 m pc ls (.int i :: .ref (ad 65) :: rest)) := va_iald hC.1 hC.2.1 hC.2.2.2.2.1 hI.1 65 0 rfl rfl hin hdg kk
theorem gs_65 (hC : gC p c cc s m args own D cy ad A) (hI : gI D cy ad A s.heap σ H locs) {i v : Int32} (hin : vp_in i 320) (hdg : decode cc pc = .ok (.iastore, 1)) (kk : ∀ (σ1 : gS) (H1 : Heap) (locs1 : List Loc), σ1 = gu σ 82 i.toNatClampNeg v → gI D cy ad A s.heap σ1 H1 locs1 → W p l e R s m args below meth c H1 locs1 cells slots Q (F0 m (pc + 1) ls rest)) : W p l e R s m args below meth c H locs cells slots Q (F0 m pc ls (.int v :: .int i :: .ref (ad 65) :: rest)) := va_iast hC.1 hC.2.1 hC.2.2.2.2.1 hI.1 hI.2.1 hI.2.2 65 0 rfl rfl hin hdg (fun H1 locs1 hP hD hS => kk _ H1 locs1 rfl ⟨hP, hD, hS⟩)
theorem ga_66 (hC : gC p c cc s m args own D cy ad A) (hI : gI D cy ad A s.heap σ H locs) {i : Int32} (hin : vp_in i 320) (hdg : decode cc pc = .ok (.baload, 1)) (kk : W p l e R s m args below meth c H locs cells slots Q (F0 m (pc + 1) ls (.int (σ 83 i.toNatClampNeg) :: rest))) : W p l e R s m args below meth c H locs cells slots Q (F0 m pc ls (.int i :: .ref (ad 66) :: rest)) := va_zald hC.1 hC.2.1 hC.2.2.2.2.1 hI.1 66 1 rfl rfl hin hdg kk
theorem gs_66 (hC : gC p c cc s m args own D cy ad A) (hI : gI D cy ad A s.heap σ H locs) {i v : Int32} (hin : vp_in i 320) (hdg : decode cc pc = .ok (.bastore, 1)) (kk : ∀ (σ1 : gS) (H1 : Heap) (locs1 : List Loc), σ1 = gu σ 83 i.toNatClampNeg (vp_nar .boolean v) → gI D cy ad A s.heap σ1 H1 locs1 → W p l e R s m args below meth c H1 locs1 cells slots Q (F0 m (pc + 1) ls rest)) : W p l e R s m args below meth c H locs cells slots Q (F0 m pc ls (.int v :: .int i :: .ref (ad 66) :: rest)) := va_zast hC.1 hC.2.1 hC.2.2.2.2.1 hI.1 hI.2.1 hI.2.2 66 1 rfl rfl hin hdg (fun H1 locs1 hP hD hS => kk _ H1 locs1 rfl ⟨hP, hD, hS⟩)
theorem ga_67 (hC : gC p c cc s m args own D cy ad A) (hI : gI D cy ad A s.heap σ H locs) {i : Int32} (hin : vp_in i 320) (hdg : decode cc pc = .ok (.baload, 1)) (kk : W p l e R s m args below meth c H locs cells slots Q (F0 m (pc + 1) ls (.int (σ 84 i.toNatClampNeg) :: rest))) : W p l e R s m args below meth c H locs cells slots Q (F0 m pc ls (.int i :: .ref (ad 67) :: rest)) := va_zald hC.1 hC.2.1 hC.2.2.2.2.1 hI.1 67 1 rfl rfl hin hdg kk
theorem gs_67 (hC : gC p c cc s m args own D cy ad A) (hI : gI D cy ad A s.heap σ H locs) {i v : Int32} (hin : vp_in i 320) (hdg : decode cc pc = .ok (.bastore, 1)) (kk : ∀ (σ1 : gS) (H1 : Heap) (locs1 : List Loc), σ1 = gu σ 84 i.toNatClampNeg (vp_nar .boolean v) → gI D cy ad A s.heap σ1 H1 locs1 → W p l e R s m args below meth c H1 locs1 cells slots Q (F0 m (pc + 1) ls rest)) : W p l e R s m args below meth c H locs cells slots Q (F0 m pc ls (.int v :: .int i :: .ref (ad 67) :: rest)) := va_zast hC.1 hC.2.1 hC.2.2.2.2.1 hI.1 hI.2.1 hI.2.2 67 1 rfl rfl hin hdg (fun H1 locs1 hP hD hS => kk _ H1 locs1 rfl ⟨hP, hD, hS⟩)
theorem ga_68 (hC : gC p c cc s m args own D cy ad A) (hI : gI D cy ad A s.heap σ H locs) {i : Int32} (hin : vp_in i 320) (hdg : decode cc pc = .ok (.iaload, 1)) (kk : W p l e R s m args below meth c H locs cells slots Q (F0 m (pc + 1) ls (.int (σ 85 i.toNatClampNeg) :: rest))) : W p l e R s m args below meth c H locs cells slots Q (F0 m pc ls (.int i :: .ref (ad 68) :: rest)) := va_iald hC.1 hC.2.1 hC.2.2.2.2.1 hI.1 68 0 rfl rfl hin hdg kk
theorem gs_68 (hC : gC p c cc s m args own D cy ad A) (hI : gI D cy ad A s.heap σ H locs) {i v : Int32} (hin : vp_in i 320) (hdg : decode cc pc = .ok (.iastore, 1)) (kk : ∀ (σ1 : gS) (H1 : Heap) (locs1 : List Loc), σ1 = gu σ 85 i.toNatClampNeg v → gI D cy ad A s.heap σ1 H1 locs1 → W p l e R s m args below meth c H1 locs1 cells slots Q (F0 m (pc + 1) ls rest)) : W p l e R s m args below meth c H locs cells slots Q (F0 m pc ls (.int v :: .int i :: .ref (ad 68) :: rest)) := va_iast hC.1 hC.2.1 hC.2.2.2.2.1 hI.1 hI.2.1 hI.2.2 68 0 rfl rfl hin hdg (fun H1 locs1 hP hD hS => kk _ H1 locs1 rfl ⟨hP, hD, hS⟩)
theorem ga_69 (hC : gC p c cc s m args own D cy ad A) (hI : gI D cy ad A s.heap σ H locs) {i : Int32} (hin : vp_in i 6) (hdg : decode cc pc = .ok (.iaload, 1)) (kk : W p l e R s m args below meth c H locs cells slots Q (F0 m (pc + 1) ls (.int (σ 87 i.toNatClampNeg) :: rest))) : W p l e R s m args below meth c H locs cells slots Q (F0 m pc ls (.int i :: .ref (ad 69) :: rest)) := va_iald hC.1 hC.2.1 hC.2.2.2.2.1 hI.1 69 0 rfl rfl hin hdg kk
theorem gs_69 (hC : gC p c cc s m args own D cy ad A) (hI : gI D cy ad A s.heap σ H locs) {i v : Int32} (hin : vp_in i 6) (hdg : decode cc pc = .ok (.iastore, 1)) (kk : ∀ (σ1 : gS) (H1 : Heap) (locs1 : List Loc), σ1 = gu σ 87 i.toNatClampNeg v → gI D cy ad A s.heap σ1 H1 locs1 → W p l e R s m args below meth c H1 locs1 cells slots Q (F0 m (pc + 1) ls rest)) : W p l e R s m args below meth c H locs cells slots Q (F0 m pc ls (.int v :: .int i :: .ref (ad 69) :: rest)) := va_iast hC.1 hC.2.1 hC.2.2.2.2.1 hI.1 hI.2.1 hI.2.2 69 0 rfl rfl hin hdg (fun H1 locs1 hP hD hS => kk _ H1 locs1 rfl ⟨hP, hD, hS⟩)
theorem ga_70 (hC : gC p c cc s m args own D cy ad A) (hI : gI D cy ad A s.heap σ H locs) {i : Int32} (hin : vp_in i 6) (hdg : decode cc pc = .ok (.iaload, 1)) (kk : W p l e R s m args below meth c H locs cells slots Q (F0 m (pc + 1) ls (.int (σ 88 i.toNatClampNeg) :: rest))) : W p l e R s m args below meth c H locs cells slots Q (F0 m pc ls (.int i :: .ref (ad 70) :: rest)) := va_iald hC.1 hC.2.1 hC.2.2.2.2.1 hI.1 70 0 rfl rfl hin hdg kk
theorem gs_70 (hC : gC p c cc s m args own D cy ad A) (hI : gI D cy ad A s.heap σ H locs) {i v : Int32} (hin : vp_in i 6) (hdg : decode cc pc = .ok (.iastore, 1)) (kk : ∀ (σ1 : gS) (H1 : Heap) (locs1 : List Loc), σ1 = gu σ 88 i.toNatClampNeg v → gI D cy ad A s.heap σ1 H1 locs1 → W p l e R s m args below meth c H1 locs1 cells slots Q (F0 m (pc + 1) ls rest)) : W p l e R s m args below meth c H locs cells slots Q (F0 m pc ls (.int v :: .int i :: .ref (ad 70) :: rest)) := va_iast hC.1 hC.2.1 hC.2.2.2.2.1 hI.1 hI.2.1 hI.2.2 70 0 rfl rfl hin hdg (fun H1 locs1 hP hD hS => kk _ H1 locs1 rfl ⟨hP, hD, hS⟩)
theorem ga_71 (hC : gC p c cc s m args own D cy ad A) (hI : gI D cy ad A s.heap σ H locs) {i : Int32} (hin : vp_in i 6) (hdg : decode cc pc = .ok (.iaload, 1)) (kk : W p l e R s m args below meth c H locs cells slots Q (F0 m (pc + 1) ls (.int (σ 89 i.toNatClampNeg) :: rest))) : W p l e R s m args below meth c H locs cells slots Q (F0 m pc ls (.int i :: .ref (ad 71) :: rest)) := va_iald hC.1 hC.2.1 hC.2.2.2.2.1 hI.1 71 0 rfl rfl hin hdg kk
theorem gs_71 (hC : gC p c cc s m args own D cy ad A) (hI : gI D cy ad A s.heap σ H locs) {i v : Int32} (hin : vp_in i 6) (hdg : decode cc pc = .ok (.iastore, 1)) (kk : ∀ (σ1 : gS) (H1 : Heap) (locs1 : List Loc), σ1 = gu σ 89 i.toNatClampNeg v → gI D cy ad A s.heap σ1 H1 locs1 → W p l e R s m args below meth c H1 locs1 cells slots Q (F0 m (pc + 1) ls rest)) : W p l e R s m args below meth c H locs cells slots Q (F0 m pc ls (.int v :: .int i :: .ref (ad 71) :: rest)) := va_iast hC.1 hC.2.1 hC.2.2.2.2.1 hI.1 hI.2.1 hI.2.2 71 0 rfl rfl hin hdg (fun H1 locs1 hP hD hS => kk _ H1 locs1 rfl ⟨hP, hD, hS⟩)
theorem ga_72 (hC : gC p c cc s m args own D cy ad A) (hI : gI D cy ad A s.heap σ H locs) {i : Int32} (hin : vp_in i 6) (hdg : decode cc pc = .ok (.iaload, 1)) (kk : W p l e R s m args below meth c H locs cells slots Q (F0 m (pc + 1) ls (.int (σ 91 i.toNatClampNeg) :: rest))) : W p l e R s m args below meth c H locs cells slots Q (F0 m pc ls (.int i :: .ref (ad 72) :: rest)) := va_iald hC.1 hC.2.1 hC.2.2.2.2.1 hI.1 72 0 rfl rfl hin hdg kk
theorem gs_72 (hC : gC p c cc s m args own D cy ad A) (hI : gI D cy ad A s.heap σ H locs) {i v : Int32} (hin : vp_in i 6) (hdg : decode cc pc = .ok (.iastore, 1)) (kk : ∀ (σ1 : gS) (H1 : Heap) (locs1 : List Loc), σ1 = gu σ 91 i.toNatClampNeg v → gI D cy ad A s.heap σ1 H1 locs1 → W p l e R s m args below meth c H1 locs1 cells slots Q (F0 m (pc + 1) ls rest)) : W p l e R s m args below meth c H locs cells slots Q (F0 m pc ls (.int v :: .int i :: .ref (ad 72) :: rest)) := va_iast hC.1 hC.2.1 hC.2.2.2.2.1 hI.1 hI.2.1 hI.2.2 72 0 rfl rfl hin hdg (fun H1 locs1 hP hD hS => kk _ H1 locs1 rfl ⟨hP, hD, hS⟩)
theorem ga_73 (hC : gC p c cc s m args own D cy ad A) (hI : gI D cy ad A s.heap σ H locs) {i : Int32} (hin : vp_in i 6) (hdg : decode cc pc = .ok (.iaload, 1)) (kk : W p l e R s m args below meth c H locs cells slots Q (F0 m (pc + 1) ls (.int (σ 92 i.toNatClampNeg) :: rest))) : W p l e R s m args below meth c H locs cells slots Q (F0 m pc ls (.int i :: .ref (ad 73) :: rest)) := va_iald hC.1 hC.2.1 hC.2.2.2.2.1 hI.1 73 0 rfl rfl hin hdg kk
theorem gs_73 (hC : gC p c cc s m args own D cy ad A) (hI : gI D cy ad A s.heap σ H locs) {i v : Int32} (hin : vp_in i 6) (hdg : decode cc pc = .ok (.iastore, 1)) (kk : ∀ (σ1 : gS) (H1 : Heap) (locs1 : List Loc), σ1 = gu σ 92 i.toNatClampNeg v → gI D cy ad A s.heap σ1 H1 locs1 → W p l e R s m args below meth c H1 locs1 cells slots Q (F0 m (pc + 1) ls rest)) : W p l e R s m args below meth c H locs cells slots Q (F0 m pc ls (.int v :: .int i :: .ref (ad 73) :: rest)) := va_iast hC.1 hC.2.1 hC.2.2.2.2.1 hI.1 hI.2.1 hI.2.2 73 0 rfl rfl hin hdg (fun H1 locs1 hP hD hS => kk _ H1 locs1 rfl ⟨hP, hD, hS⟩)
theorem ga_74 (hC : gC p c cc s m args own D cy ad A) (hI : gI D cy ad A s.heap σ H locs) {i : Int32} (hin : vp_in i 200) (hdg : decode cc pc = .ok (.iaload, 1)) (kk : W p l e R s m args below meth c H locs cells slots Q (F0 m (pc + 1) ls (.int (σ 94 i.toNatClampNeg) :: rest))) : W p l e R s m args below meth c H locs cells slots Q (F0 m pc ls (.int i :: .ref (ad 74) :: rest)) := va_iald hC.1 hC.2.1 hC.2.2.2.2.1 hI.1 74 0 rfl rfl hin hdg kk
theorem gs_74 (hC : gC p c cc s m args own D cy ad A) (hI : gI D cy ad A s.heap σ H locs) {i v : Int32} (hin : vp_in i 200) (hdg : decode cc pc = .ok (.iastore, 1)) (kk : ∀ (σ1 : gS) (H1 : Heap) (locs1 : List Loc), σ1 = gu σ 94 i.toNatClampNeg v → gI D cy ad A s.heap σ1 H1 locs1 → W p l e R s m args below meth c H1 locs1 cells slots Q (F0 m (pc + 1) ls rest)) : W p l e R s m args below meth c H locs cells slots Q (F0 m pc ls (.int v :: .int i :: .ref (ad 74) :: rest)) := va_iast hC.1 hC.2.1 hC.2.2.2.2.1 hI.1 hI.2.1 hI.2.2 74 0 rfl rfl hin hdg (fun H1 locs1 hP hD hS => kk _ H1 locs1 rfl ⟨hP, hD, hS⟩)
theorem ga_75 (hC : gC p c cc s m args own D cy ad A) (hI : gI D cy ad A s.heap σ H locs) {i : Int32} (hin : vp_in i 200) (hdg : decode cc pc = .ok (.baload, 1)) (kk : W p l e R s m args below meth c H locs cells slots Q (F0 m (pc + 1) ls (.int (σ 95 i.toNatClampNeg) :: rest))) : W p l e R s m args below meth c H locs cells slots Q (F0 m pc ls (.int i :: .ref (ad 75) :: rest)) := va_zald hC.1 hC.2.1 hC.2.2.2.2.1 hI.1 75 1 rfl rfl hin hdg kk
theorem gs_75 (hC : gC p c cc s m args own D cy ad A) (hI : gI D cy ad A s.heap σ H locs) {i v : Int32} (hin : vp_in i 200) (hdg : decode cc pc = .ok (.bastore, 1)) (kk : ∀ (σ1 : gS) (H1 : Heap) (locs1 : List Loc), σ1 = gu σ 95 i.toNatClampNeg (vp_nar .boolean v) → gI D cy ad A s.heap σ1 H1 locs1 → W p l e R s m args below meth c H1 locs1 cells slots Q (F0 m (pc + 1) ls rest)) : W p l e R s m args below meth c H locs cells slots Q (F0 m pc ls (.int v :: .int i :: .ref (ad 75) :: rest)) := va_zast hC.1 hC.2.1 hC.2.2.2.2.1 hI.1 hI.2.1 hI.2.2 75 1 rfl rfl hin hdg (fun H1 locs1 hP hD hS => kk _ H1 locs1 rfl ⟨hP, hD, hS⟩)
theorem ga_76 (hC : gC p c cc s m args own D cy ad A) (hI : gI D cy ad A s.heap σ H locs) {i : Int32} (hin : vp_in i 200) (hdg : decode cc pc = .ok (.iaload, 1)) (kk : W p l e R s m args below meth c H locs cells slots Q (F0 m (pc + 1) ls (.int (σ 96 i.toNatClampNeg) :: rest))) : W p l e R s m args below meth c H locs cells slots Q (F0 m pc ls (.int i :: .ref (ad 76) :: rest)) := va_iald hC.1 hC.2.1 hC.2.2.2.2.1 hI.1 76 0 rfl rfl hin hdg kk
theorem gs_76 (hC : gC p c cc s m args own D cy ad A) (hI : gI D cy ad A s.heap σ H locs) {i v : Int32} (hin : vp_in i 200) (hdg : decode cc pc = .ok (.iastore, 1)) (kk : ∀ (σ1 : gS) (H1 : Heap) (locs1 : List Loc), σ1 = gu σ 96 i.toNatClampNeg v → gI D cy ad A s.heap σ1 H1 locs1 → W p l e R s m args below meth c H1 locs1 cells slots Q (F0 m (pc + 1) ls rest)) : W p l e R s m args below meth c H locs cells slots Q (F0 m pc ls (.int v :: .int i :: .ref (ad 76) :: rest)) := va_iast hC.1 hC.2.1 hC.2.2.2.2.1 hI.1 hI.2.1 hI.2.2 76 0 rfl rfl hin hdg (fun H1 locs1 hP hD hS => kk _ H1 locs1 rfl ⟨hP, hD, hS⟩)
theorem ga_77 (hC : gC p c cc s m args own D cy ad A) (hI : gI D cy ad A s.heap σ H locs) {i : Int32} (hin : vp_in i 200) (hdg : decode cc pc = .ok (.iaload, 1)) (kk : W p l e R s m args below meth c H locs cells slots Q (F0 m (pc + 1) ls (.int (σ 97 i.toNatClampNeg) :: rest))) : W p l e R s m args below meth c H locs cells slots Q (F0 m pc ls (.int i :: .ref (ad 77) :: rest)) := va_iald hC.1 hC.2.1 hC.2.2.2.2.1 hI.1 77 0 rfl rfl hin hdg kk
theorem gs_77 (hC : gC p c cc s m args own D cy ad A) (hI : gI D cy ad A s.heap σ H locs) {i v : Int32} (hin : vp_in i 200) (hdg : decode cc pc = .ok (.iastore, 1)) (kk : ∀ (σ1 : gS) (H1 : Heap) (locs1 : List Loc), σ1 = gu σ 97 i.toNatClampNeg v → gI D cy ad A s.heap σ1 H1 locs1 → W p l e R s m args below meth c H1 locs1 cells slots Q (F0 m (pc + 1) ls rest)) : W p l e R s m args below meth c H locs cells slots Q (F0 m pc ls (.int v :: .int i :: .ref (ad 77) :: rest)) := va_iast hC.1 hC.2.1 hC.2.2.2.2.1 hI.1 hI.2.1 hI.2.2 77 0 rfl rfl hin hdg (fun H1 locs1 hP hD hS => kk _ H1 locs1 rfl ⟨hP, hD, hS⟩)
theorem ga_78 (hC : gC p c cc s m args own D cy ad A) (hI : gI D cy ad A s.heap σ H locs) {i : Int32} (hin : vp_in i 48) (hdg : decode cc pc = .ok (.iaload, 1)) (kk : W p l e R s m args below meth c H locs cells slots Q (F0 m (pc + 1) ls (.int (σ 99 i.toNatClampNeg) :: rest))) : W p l e R s m args below meth c H locs cells slots Q (F0 m pc ls (.int i :: .ref (ad 78) :: rest)) := va_iald hC.1 hC.2.1 hC.2.2.2.2.1 hI.1 78 0 rfl rfl hin hdg kk
theorem gs_78 (hC : gC p c cc s m args own D cy ad A) (hI : gI D cy ad A s.heap σ H locs) {i v : Int32} (hin : vp_in i 48) (hdg : decode cc pc = .ok (.iastore, 1)) (kk : ∀ (σ1 : gS) (H1 : Heap) (locs1 : List Loc), σ1 = gu σ 99 i.toNatClampNeg v → gI D cy ad A s.heap σ1 H1 locs1 → W p l e R s m args below meth c H1 locs1 cells slots Q (F0 m (pc + 1) ls rest)) : W p l e R s m args below meth c H locs cells slots Q (F0 m pc ls (.int v :: .int i :: .ref (ad 78) :: rest)) := va_iast hC.1 hC.2.1 hC.2.2.2.2.1 hI.1 hI.2.1 hI.2.2 78 0 rfl rfl hin hdg (fun H1 locs1 hP hD hS => kk _ H1 locs1 rfl ⟨hP, hD, hS⟩)
theorem ga_79 (hC : gC p c cc s m args own D cy ad A) (hI : gI D cy ad A s.heap σ H locs) {i : Int32} (hin : vp_in i 48) (hdg : decode cc pc = .ok (.iaload, 1)) (kk : W p l e R s m args below meth c H locs cells slots Q (F0 m (pc + 1) ls (.int (σ 100 i.toNatClampNeg) :: rest))) : W p l e R s m args below meth c H locs cells slots Q (F0 m pc ls (.int i :: .ref (ad 79) :: rest)) := va_iald hC.1 hC.2.1 hC.2.2.2.2.1 hI.1 79 0 rfl rfl hin hdg kk
theorem gs_79 (hC : gC p c cc s m args own D cy ad A) (hI : gI D cy ad A s.heap σ H locs) {i v : Int32} (hin : vp_in i 48) (hdg : decode cc pc = .ok (.iastore, 1)) (kk : ∀ (σ1 : gS) (H1 : Heap) (locs1 : List Loc), σ1 = gu σ 100 i.toNatClampNeg v → gI D cy ad A s.heap σ1 H1 locs1 → W p l e R s m args below meth c H1 locs1 cells slots Q (F0 m (pc + 1) ls rest)) : W p l e R s m args below meth c H locs cells slots Q (F0 m pc ls (.int v :: .int i :: .ref (ad 79) :: rest)) := va_iast hC.1 hC.2.1 hC.2.2.2.2.1 hI.1 hI.2.1 hI.2.2 79 0 rfl rfl hin hdg (fun H1 locs1 hP hD hS => kk _ H1 locs1 rfl ⟨hP, hD, hS⟩)
theorem ga_80 (hC : gC p c cc s m args own D cy ad A) (hI : gI D cy ad A s.heap σ H locs) {i : Int32} (hin : vp_in i 24) (hdg : decode cc pc = .ok (.iaload, 1)) (kk : W p l e R s m args below meth c H locs cells slots Q (F0 m (pc + 1) ls (.int (σ 102 i.toNatClampNeg) :: rest))) : W p l e R s m args below meth c H locs cells slots Q (F0 m pc ls (.int i :: .ref (ad 80) :: rest)) := va_iald hC.1 hC.2.1 hC.2.2.2.2.1 hI.1 80 0 rfl rfl hin hdg kk
theorem gs_80 (hC : gC p c cc s m args own D cy ad A) (hI : gI D cy ad A s.heap σ H locs) {i v : Int32} (hin : vp_in i 24) (hdg : decode cc pc = .ok (.iastore, 1)) (kk : ∀ (σ1 : gS) (H1 : Heap) (locs1 : List Loc), σ1 = gu σ 102 i.toNatClampNeg v → gI D cy ad A s.heap σ1 H1 locs1 → W p l e R s m args below meth c H1 locs1 cells slots Q (F0 m (pc + 1) ls rest)) : W p l e R s m args below meth c H locs cells slots Q (F0 m pc ls (.int v :: .int i :: .ref (ad 80) :: rest)) := va_iast hC.1 hC.2.1 hC.2.2.2.2.1 hI.1 hI.2.1 hI.2.2 80 0 rfl rfl hin hdg (fun H1 locs1 hP hD hS => kk _ H1 locs1 rfl ⟨hP, hD, hS⟩)
theorem ga_81 (hC : gC p c cc s m args own D cy ad A) (hI : gI D cy ad A s.heap σ H locs) {i : Int32} (hin : vp_in i 400) (hdg : decode cc pc = .ok (.baload, 1)) (kk : W p l e R s m args below meth c H locs cells slots Q (F0 m (pc + 1) ls (.int (σ 103 i.toNatClampNeg) :: rest))) : W p l e R s m args below meth c H locs cells slots Q (F0 m pc ls (.int i :: .ref (ad 81) :: rest)) := va_bald hC.1 hC.2.1 hC.2.2.2.2.1 hI.1 81 2 rfl rfl hin hdg kk
theorem gs_81 (hC : gC p c cc s m args own D cy ad A) (hI : gI D cy ad A s.heap σ H locs) {i v : Int32} (hin : vp_in i 400) (hdg : decode cc pc = .ok (.bastore, 1)) (kk : ∀ (σ1 : gS) (H1 : Heap) (locs1 : List Loc), σ1 = gu σ 103 i.toNatClampNeg (vp_nar .byte v) → gI D cy ad A s.heap σ1 H1 locs1 → W p l e R s m args below meth c H1 locs1 cells slots Q (F0 m (pc + 1) ls rest)) : W p l e R s m args below meth c H locs cells slots Q (F0 m pc ls (.int v :: .int i :: .ref (ad 81) :: rest)) := va_bast hC.1 hC.2.1 hC.2.2.2.2.1 hI.1 hI.2.1 hI.2.2 81 2 rfl rfl hin hdg (fun H1 locs1 hP hD hS => kk _ H1 locs1 rfl ⟨hP, hD, hS⟩)
theorem ga_82 (hC : gC p c cc s m args own D cy ad A) (hI : gI D cy ad A s.heap σ H locs) {i : Int32} (hin : vp_in i 5) (hdg : decode cc pc = .ok (.iaload, 1)) (kk : W p l e R s m args below meth c H locs cells slots Q (F0 m (pc + 1) ls (.int (σ 109 i.toNatClampNeg) :: rest))) : W p l e R s m args below meth c H locs cells slots Q (F0 m pc ls (.int i :: .ref (ad 82) :: rest)) := va_iald hC.1 hC.2.1 hC.2.2.2.2.1 hI.1 82 0 rfl rfl hin hdg kk
theorem gs_82 (hC : gC p c cc s m args own D cy ad A) (hI : gI D cy ad A s.heap σ H locs) {i v : Int32} (hin : vp_in i 5) (hdg : decode cc pc = .ok (.iastore, 1)) (kk : ∀ (σ1 : gS) (H1 : Heap) (locs1 : List Loc), σ1 = gu σ 109 i.toNatClampNeg v → gI D cy ad A s.heap σ1 H1 locs1 → W p l e R s m args below meth c H1 locs1 cells slots Q (F0 m (pc + 1) ls rest)) : W p l e R s m args below meth c H locs cells slots Q (F0 m pc ls (.int v :: .int i :: .ref (ad 82) :: rest)) := va_iast hC.1 hC.2.1 hC.2.2.2.2.1 hI.1 hI.2.1 hI.2.2 82 0 rfl rfl hin hdg (fun H1 locs1 hP hD hS => kk _ H1 locs1 rfl ⟨hP, hD, hS⟩)
theorem ga_83 (hC : gC p c cc s m args own D cy ad A) (hI : gI D cy ad A s.heap σ H locs) {i : Int32} (hin : vp_in i 1) (hdg : decode cc pc = .ok (.laload, 1)) (kk : W p l e R s m args below meth c H locs cells slots Q (F0 m (pc + 1) ls (.long (σ 110 i.toNatClampNeg).toInt64 :: rest))) : W p l e R s m args below meth c H locs cells slots Q (F0 m pc ls (.int i :: .ref (ad 83) :: rest)) := va_lald hC.1 hC.2.1 hC.2.2.2.2.1 hI.1 83 3 (f := fun i => (σ 110 i).toInt64) rfl rfl hin hdg kk
theorem gs_83 (hC : gC p c cc s m args own D cy ad A) (hI : gI D cy ad A s.heap σ H locs) {i x : Int32} {v : Int64} (hx : v = x.toInt64) (hin : vp_in i 1) (hdg : decode cc pc = .ok (.lastore, 1)) (kk : ∀ (σ1 : gS) (H1 : Heap) (locs1 : List Loc), σ1 = gu σ 110 i.toNatClampNeg x → gI D cy ad A s.heap σ1 H1 locs1 → W p l e R s m args below meth c H1 locs1 cells slots Q (F0 m (pc + 1) ls rest)) : W p l e R s m args below meth c H locs cells slots Q (F0 m pc ls (.long v :: .int i :: .ref (ad 83) :: rest)) := by
  subst hx
  refine va_last hC.1 hC.2.1 hC.2.2.2.2.1 hI.1 hI.2.1 hI.2.2 83 3 (f := fun i => (σ 110 i).toInt64) rfl rfl hin hdg (fun H1 locs1 hP hD hS => kk (gu σ 110 i.toNatClampNeg x) H1 locs1 rfl ⟨?_, ?_, hS⟩)
  · refine cast ?_ hP
    exact congrArg (fun (f : Nat → Int64) => va_P D vwCl ((gW cy ad σ).set 83 (ad 83, .inl (cy 3, 1, .inr (.inl f)))) H1) (funext fun k => by
      by_cases hk : k = i.toNatClampNeg
      · subst hk; simp [vp_updL, gu, upd]
      · simp [vp_updL, gu, upd, hk])
  · refine cast ?_ hD
    exact congrArg (fun (f : Nat → Int64) => va_D A ((gW cy ad σ).set 83 (ad 83, .inl (cy 3, 1, .inr (.inl f))))) (funext fun k => by
      by_cases hk : k = i.toNatClampNeg
      · subst hk; simp [vp_updL, gu, upd]
      · simp [vp_updL, gu, upd, hk])
theorem gat_0 (hC : gC p c cc s m args own D cy ad A) (hI : gI D cy ad A s.heap σ H locs) {j : Nat} (hj : j = 8 ∨ j = 9) {i : Int32} (hin : vp_in i 12) (hdg : decode cc pc = .ok (.iaload, 1)) (kk : W p l e R s m args below meth c H locs cells slots Q (F0 m (pc + 1) ls (.int (σ (gtk j + 0) i.toNatClampNeg) :: rest))) : W p l e R s m args below meth c H locs cells slots Q (F0 m pc ls (.int i :: .ref (ad (gtc j + 0)) :: rest)) := by
  rcases hj with rfl | rfl
  · exact ga_11 hC hI hin hdg kk
  · exact ga_15 hC hI hin hdg kk
theorem gst_0 (hC : gC p c cc s m args own D cy ad A) (hI : gI D cy ad A s.heap σ H locs) {j : Nat} (hj : j = 8 ∨ j = 9) {i v : Int32} (hin : vp_in i 12) (hdg : decode cc pc = .ok (.iastore, 1)) (kk : ∀ (σ1 : gS) (H1 : Heap) (locs1 : List Loc), σ1 = gu σ (gtk j + 0) i.toNatClampNeg v → gI D cy ad A s.heap σ1 H1 locs1 → W p l e R s m args below meth c H1 locs1 cells slots Q (F0 m (pc + 1) ls rest)) : W p l e R s m args below meth c H locs cells slots Q (F0 m pc ls (.int v :: .int i :: .ref (ad (gtc j + 0)) :: rest)) := by
  rcases hj with rfl | rfl
  · exact gs_11 hC hI hin hdg kk
  · exact gs_15 hC hI hin hdg kk
theorem gat_1 (hC : gC p c cc s m args own D cy ad A) (hI : gI D cy ad A s.heap σ H locs) {j : Nat} (hj : j = 8 ∨ j = 9) {i : Int32} (hin : vp_in i 12) (hdg : decode cc pc = .ok (.iaload, 1)) (kk : W p l e R s m args below meth c H locs cells slots Q (F0 m (pc + 1) ls (.int (σ (gtk j + 1) i.toNatClampNeg) :: rest))) : W p l e R s m args below meth c H locs cells slots Q (F0 m pc ls (.int i :: .ref (ad (gtc j + 1)) :: rest)) := by
  rcases hj with rfl | rfl
  · exact ga_12 hC hI hin hdg kk
  · exact ga_16 hC hI hin hdg kk
theorem gst_1 (hC : gC p c cc s m args own D cy ad A) (hI : gI D cy ad A s.heap σ H locs) {j : Nat} (hj : j = 8 ∨ j = 9) {i v : Int32} (hin : vp_in i 12) (hdg : decode cc pc = .ok (.iastore, 1)) (kk : ∀ (σ1 : gS) (H1 : Heap) (locs1 : List Loc), σ1 = gu σ (gtk j + 1) i.toNatClampNeg v → gI D cy ad A s.heap σ1 H1 locs1 → W p l e R s m args below meth c H1 locs1 cells slots Q (F0 m (pc + 1) ls rest)) : W p l e R s m args below meth c H locs cells slots Q (F0 m pc ls (.int v :: .int i :: .ref (ad (gtc j + 1)) :: rest)) := by
  rcases hj with rfl | rfl
  · exact gs_12 hC hI hin hdg kk
  · exact gs_16 hC hI hin hdg kk
theorem gat_2 (hC : gC p c cc s m args own D cy ad A) (hI : gI D cy ad A s.heap σ H locs) {j : Nat} (hj : j = 8 ∨ j = 9) {i : Int32} (hin : vp_in i 12) (hdg : decode cc pc = .ok (.iaload, 1)) (kk : W p l e R s m args below meth c H locs cells slots Q (F0 m (pc + 1) ls (.int (σ (gtk j + 2) i.toNatClampNeg) :: rest))) : W p l e R s m args below meth c H locs cells slots Q (F0 m pc ls (.int i :: .ref (ad (gtc j + 2)) :: rest)) := by
  rcases hj with rfl | rfl
  · exact ga_13 hC hI hin hdg kk
  · exact ga_17 hC hI hin hdg kk
theorem gst_2 (hC : gC p c cc s m args own D cy ad A) (hI : gI D cy ad A s.heap σ H locs) {j : Nat} (hj : j = 8 ∨ j = 9) {i v : Int32} (hin : vp_in i 12) (hdg : decode cc pc = .ok (.iastore, 1)) (kk : ∀ (σ1 : gS) (H1 : Heap) (locs1 : List Loc), σ1 = gu σ (gtk j + 2) i.toNatClampNeg v → gI D cy ad A s.heap σ1 H1 locs1 → W p l e R s m args below meth c H1 locs1 cells slots Q (F0 m (pc + 1) ls rest)) : W p l e R s m args below meth c H locs cells slots Q (F0 m pc ls (.int v :: .int i :: .ref (ad (gtc j + 2)) :: rest)) := by
  rcases hj with rfl | rfl
  · exact gs_13 hC hI hin hdg kk
  · exact gs_17 hC hI hin hdg kk
theorem gat_3 (hC : gC p c cc s m args own D cy ad A) (hI : gI D cy ad A s.heap σ H locs) {j : Nat} (hj : j = 8 ∨ j = 9) {i : Int32} (hin : vp_in i 12) (hdg : decode cc pc = .ok (.iaload, 1)) (kk : W p l e R s m args below meth c H locs cells slots Q (F0 m (pc + 1) ls (.int (σ (gtk j + 3) i.toNatClampNeg) :: rest))) : W p l e R s m args below meth c H locs cells slots Q (F0 m pc ls (.int i :: .ref (ad (gtc j + 3)) :: rest)) := by
  rcases hj with rfl | rfl
  · exact ga_14 hC hI hin hdg kk
  · exact ga_18 hC hI hin hdg kk
theorem gst_3 (hC : gC p c cc s m args own D cy ad A) (hI : gI D cy ad A s.heap σ H locs) {j : Nat} (hj : j = 8 ∨ j = 9) {i v : Int32} (hin : vp_in i 12) (hdg : decode cc pc = .ok (.iastore, 1)) (kk : ∀ (σ1 : gS) (H1 : Heap) (locs1 : List Loc), σ1 = gu σ (gtk j + 3) i.toNatClampNeg v → gI D cy ad A s.heap σ1 H1 locs1 → W p l e R s m args below meth c H1 locs1 cells slots Q (F0 m (pc + 1) ls rest)) : W p l e R s m args below meth c H locs cells slots Q (F0 m pc ls (.int v :: .int i :: .ref (ad (gtc j + 3)) :: rest)) := by
  rcases hj with rfl | rfl
  · exact gs_14 hC hI hin hdg kk
  · exact gs_18 hC hI hin hdg kk
theorem grv_0 (hC : gC p c cc s m args own D cy ad A) (hI : gI D cy ad A s.heap σ H locs) : ∃ cell : Cell, H[ad 0]? = some cell ∧ cell.vm.isStatics = false ∧ s.vm.findClass RX8 = some cell.cls := va_recv hC.2.2.2.2.1 hI.1 (ci := 8) (q0 := 0) rfl rfl
theorem grv_1 (hC : gC p c cc s m args own D cy ad A) (hI : gI D cy ad A s.heap σ H locs) : ∃ cell : Cell, H[ad 1]? = some cell ∧ cell.vm.isStatics = false ∧ s.vm.findClass RX6 = some cell.cls := va_recv hC.2.2.2.2.1 hI.1 (ci := 6) (q0 := 1) rfl rfl
theorem grv_2 (hC : gC p c cc s m args own D cy ad A) (hI : gI D cy ad A s.heap σ H locs) : ∃ cell : Cell, H[ad 2]? = some cell ∧ cell.vm.isStatics = false ∧ s.vm.findClass RX5 = some cell.cls := va_recv hC.2.2.2.2.1 hI.1 (ci := 5) (q0 := 2) rfl rfl
theorem grv_3 (hC : gC p c cc s m args own D cy ad A) (hI : gI D cy ad A s.heap σ H locs) : ∃ cell : Cell, H[ad 3]? = some cell ∧ cell.vm.isStatics = false ∧ s.vm.findClass RX3 = some cell.cls := va_recv hC.2.2.2.2.1 hI.1 (ci := 3) (q0 := 3) rfl rfl
theorem grv_4 (hC : gC p c cc s m args own D cy ad A) (hI : gI D cy ad A s.heap σ H locs) : ∃ cell : Cell, H[ad 4]? = some cell ∧ cell.vm.isStatics = false ∧ s.vm.findClass RX2 = some cell.cls := va_recv hC.2.2.2.2.1 hI.1 (ci := 2) (q0 := 4) rfl rfl
theorem grv_5 (hC : gC p c cc s m args own D cy ad A) (hI : gI D cy ad A s.heap σ H locs) : ∃ cell : Cell, H[ad 5]? = some cell ∧ cell.vm.isStatics = false ∧ s.vm.findClass RX0 = some cell.cls := va_recv hC.2.2.2.2.1 hI.1 (ci := 0) (q0 := 5) rfl rfl
theorem grv_6 (hC : gC p c cc s m args own D cy ad A) (hI : gI D cy ad A s.heap σ H locs) : ∃ cell : Cell, H[ad 6]? = some cell ∧ cell.vm.isStatics = false ∧ s.vm.findClass RX4 = some cell.cls := va_recv hC.2.2.2.2.1 hI.1 (ci := 4) (q0 := 6) rfl rfl
theorem grv_7 (hC : gC p c cc s m args own D cy ad A) (hI : gI D cy ad A s.heap σ H locs) : ∃ cell : Cell, H[ad 7]? = some cell ∧ cell.vm.isStatics = false ∧ s.vm.findClass RX1 = some cell.cls := va_recv hC.2.2.2.2.1 hI.1 (ci := 1) (q0 := 7) rfl rfl
theorem grv_8 (hC : gC p c cc s m args own D cy ad A) (hI : gI D cy ad A s.heap σ H locs) : ∃ cell : Cell, H[ad 8]? = some cell ∧ cell.vm.isStatics = false ∧ s.vm.findClass RX7 = some cell.cls := va_recv hC.2.2.2.2.1 hI.1 (ci := 7) (q0 := 8) rfl rfl
theorem grv_9 (hC : gC p c cc s m args own D cy ad A) (hI : gI D cy ad A s.heap σ H locs) : ∃ cell : Cell, H[ad 9]? = some cell ∧ cell.vm.isStatics = false ∧ s.vm.findClass RX7 = some cell.cls := va_recv hC.2.2.2.2.1 hI.1 (ci := 7) (q0 := 9) rfl rfl
theorem grv_10 (hC : gC p c cc s m args own D cy ad A) (hI : gI D cy ad A s.heap σ H locs) : ∃ cell : Cell, H[ad 10]? = some cell ∧ cell.vm.isStatics = false ∧ s.vm.findClass RX9 = some cell.cls := va_recv hC.2.2.2.2.1 hI.1 (ci := 9) (q0 := 10) rfl rfl
theorem grv_t {j : Nat} (hj : j = 8 ∨ j = 9) (hC : gC p c cc s m args own D cy ad A) (hI : gI D cy ad A s.heap σ H locs) : ∃ cell : Cell, H[ad j]? = some cell ∧ cell.vm.isStatics = false ∧ s.vm.findClass RX7 = some cell.cls := by
  rcases hj with rfl | rfl
  · exact grv_8 hC hI
  · exact grv_9 hC hI
end GROWS
end
section
/-! CALLS AND RETURNS over the one world -/
section GCALLS
variable {p : Program} {l : Launch} {e : Env} {R : Room} {s s₁ : State} {m : MethodId} {args : Array Value} {below : List Frame} {meth : Method} {c : Code} {H : Heap} {locs : List Loc} {cells slots : Nat} {Z : State → Prop} {cc : ByteArray} {pc : Nat} {ls : Array Slot} {rest : List Value} {D : va_G} {cy : Nat → ClassId} {ad : Nat → Nat} {A : Nat → Prop} {σ : gS} {own : String} {index : Nat}
/-- a boolean answer -/
def gz (v : Int32) : Prop := narrow .boolean (.int v) = .int v
theorem g_start {y : MethodName} {maxL : Nat} {ret : Option FieldType} {rm : Room} (B : BodyLoose p l y (headSpec (Cond.code y cc maxL ret :: gG) rm) cc maxL ret e s m args below meth c s₁) (hB : gB D cy ad A σ s) : gC p c cc s m args y.cls D cy ad A :=
  ⟨B.exec, B.bytes, fun w h => atoms_spec (ws := Cond.code y cc maxL ret :: gG) B.pre w (List.mem_cons_of_mem _ h), findClass_of_methodNamed B.named, hB.2.1, hB.2.2.2.1, hB.2.2.2.2⟩
theorem g_first (hB : gB D cy ad A σ s) : gI D cy ad A s.heap σ s.heap [] := ⟨hB.1, hB.2.2.1, va_S.rf⟩
theorem g_iret {Q : Int32 → gS → Prop} {v : Int32} (hC : gC p c cc s m args own D cy ad A) (hr : meth.sig.returnType = some .int) (hlocks : meth.locks = false) (hI : gI D cy ad A s.heap σ H locs) (h : Q v σ) (hdg : decode cc pc = .ok (.ireturn, 1)) :
    W p l e R s m args below meth c H locs cells slots (MQ below (va_Qi Q (gB D cy ad A) A) args s cells slots A) (F0 m pc ls [.int v]) :=
  W.iret (v := v) hC.1 hC.2.1 hr (fun _ ht hW => ⟨⟨v, σ, rfl, h, hI.toB hC ht hW⟩, hI.2.2.F ht⟩) hI.2.2.2.2 hdg hlocks
theorem g_zret {Q : Int32 → gS → Prop} {v : Int32} (hC : gC p c cc s m args own D cy ad A) (hr : meth.sig.returnType = some .boolean) (hlocks : meth.locks = false) (hz : gz v) (hI : gI D cy ad A s.heap σ H locs) (h : Q v σ) (hdg : decode cc pc = .ok (.ireturn, 1)) :
    W p l e R s m args below meth c H locs cells slots (MQ below (va_Qi Q (gB D cy ad A) A) args s cells slots A) (F0 m pc ls [.int v]) :=
  W.zret (v := v) hC.1 hC.2.1 hr hz (fun _ ht hW => ⟨⟨v, σ, rfl, h, hI.toB hC ht hW⟩, hI.2.2.F ht⟩) hI.2.2.2.2 hdg hlocks
theorem g_vret {Q : gS → Prop} (hC : gC p c cc s m args own D cy ad A) (hr : meth.sig.returnType = none) (hlocks : meth.locks = false) (hI : gI D cy ad A s.heap σ H locs) (h : Q σ) (hdg : decode cc pc = .ok (.return_, 1)) :
    W p l e R s m args below meth c H locs cells slots (MQ below (va_Qv Q (gB D cy ad A) A) args s cells slots A) (F0 m pc ls []) :=
  W.vret hC.1 hC.2.1 hr (fun _ ht hW => ⟨⟨σ, rfl, h, hI.toB hC ht hW⟩, hI.2.2.F ht⟩) hI.2.2.2.2 hdg hlocks
/-- what the tables say of an instance method that is called by its own class's name -/
def gCV (y : MethodName) (C : String) (bytes : ByteArray) (maxL : Nat) (ret : Option FieldType) (n : Nat) : Prop := Cond.instanceMethod y ∈ gG ∧ Cond.selects C y y ∈ gG ∧ Cond.initialized C ∈ gG ∧ Cond.code y bytes maxL ret ∈ gG ∧ y.cls = C ∧ (y.cls ≠ "java/lang/invoke/MethodHandle" ∧ y.cls ≠ "java/lang/invoke/VarHandle" ∧ (parseMethodDescriptor y.desc).map (fun d => d.parameters.length) = some n)
def gCS (y : MethodName) (bytes : ByteArray) (maxL : Nat) (ret : Option FieldType) (n : Nat) : Prop := Cond.static y ∈ gG ∧ Cond.initialized y.cls ∈ gG ∧ Cond.code y bytes maxL ret ∈ gG ∧ (y.cls ≠ "java/lang/invoke/MethodHandle" ∧ y.cls ≠ "java/lang/invoke/VarHandle" ∧ (parseMethodDescriptor y.desc).map (fun d => d.parameters.length) = some n)
variable {y : MethodName} {C : String} {bytes : ByteArray} {maxL n nL : Nat} {ret : Option FieldType} {rm : Room} {As st0 : List Value} {b : Nat}
theorem g_good (hc : Cond.code y bytes maxL ret ∈ gG) : GoodIn gG (Cond.code y bytes maxL ret :: gG) := fun w h => (List.mem_cons.mp h).elim (fun q => by rw [q]; exact ⟨hc, good_of_word (gG_good _ hc)⟩) (fun q => ⟨q, good_of_word (gG_good _ q)⟩)
theorem g_cb (hC : gC p c cc s m args own D cy ad A) (w1 : Cond.methodLink own index y ∈ gG) (hc : Cond.code y bytes maxL ret ∈ gG) (hi : Cond.initialized y.cls ∈ gG) (hd : y.cls ≠ "java/lang/invoke/MethodHandle" ∧ y.cls ≠ "java/lang/invoke/VarHandle" ∧ (parseMethodDescriptor y.desc).map (fun d => d.parameters.length) = some n) (hcz : rm.cells = 0 ∧ rm.slots = 0) (hR : rm.frames + 1 ≤ R.frames ∧ 8 + (maxL + 11) + rm.locals ≤ R.locals) :
    CallB R s args own index y bytes maxL ret (Cond.code y bytes maxL ret :: gG) rm 0 0 n :=
  callB_of n hC.2.2.1 (g_good hc) rfl hcz.1 hcz.2 (hC.2.2.1 _ hi) (hC.2.2.1 _ w1) hd hR
theorem g_runV {Qc : Array Value → State → Outcome → State → Prop} (hC : gC p c cc s m args own D cy ad A) (hml : c.maxLocals = nL) (hI : gI D cy ad A s.heap σ H locs) (hM : Met l y (Cond.code y bytes maxL ret :: gG) rm (va_Pc (.ref b :: As) (gB D cy ad A σ)) Qc 0 0 A) (hk : gCV y C bytes maxL ret n) (w1 : Cond.methodLink own index y ∈ gG) (hcz : rm.cells = 0 ∧ rm.slots = 0) (hR : rm.frames + 1 ≤ R.frames ∧ 8 + (maxL + 11) + rm.locals ≤ R.locals)
    (hv : ∃ cell : Cell, H[b]? = some cell ∧ cell.vm.isStatics = false ∧ s.vm.findClass C = some cell.cls) (hn : As.length = n) (hsize : ls.size = nL) (hst : st0 = As.reverse ++ .ref b :: rest) (hW : (rest.map fun v => v.category).sum ≤ 8) (hdg : decode cc pc = .ok (.invokevirtual index, 3)) (hcs : cells ≤ R.cells ∧ slots ≤ R.slots) :
    va_Run p l e R s m args below meth c H locs cells slots 0 0 (F0 m pc ls st0) rest (Qc (Value.ref b :: As).toArray) A := by
  subst hst
  obtain ⟨k1, k2, k3, k4, k5, k6⟩ := hk
  exact va_runV (C := C) ⟨hC.1, hC.2.1, hml, hC.2.2.2.1, hC.2.2.1⟩ hM ⟨g_cb hC w1 k4 (by rw [k5]; exact k3) k6 hcz hR, hC.2.2.1 _ k1, hC.2.2.1 _ k2⟩ ⟨gPc_blind, hv, fun U hU hw => ⟨rfl, hI.toB hC hU hw⟩⟩ rfl hn hsize rfl (lv_room hW) hdg hcs
theorem g_runS {Qc : Array Value → State → Outcome → State → Prop} (hC : gC p c cc s m args own D cy ad A) (hml : c.maxLocals = nL) (hI : gI D cy ad A s.heap σ H locs) (hM : Met l y (Cond.code y bytes maxL ret :: gG) rm (va_Pc As (gB D cy ad A σ)) Qc 0 0 A) (hk : gCS y bytes maxL ret n) (w1 : Cond.methodLink own index y ∈ gG) (hcz : rm.cells = 0 ∧ rm.slots = 0) (hR : rm.frames + 1 ≤ R.frames ∧ 8 + (maxL + 11) + rm.locals ≤ R.locals)
    (hn : As.length = n) (hsize : ls.size = nL) (hst : st0 = As.reverse ++ rest) (hW : (rest.map fun v => v.category).sum ≤ 8) (hdg : decode cc pc = .ok (.invokestatic index, 3)) (hcs : cells ≤ R.cells ∧ slots ≤ R.slots) :
    va_Run p l e R s m args below meth c H locs cells slots 0 0 (F0 m pc ls st0) rest (Qc As.toArray) A := by
  subst hst
  obtain ⟨k1, k2, k3, k4⟩ := hk
  exact va_runS ⟨hC.1, hC.2.1, hml, hC.2.2.2.1, hC.2.2.1⟩ hM ⟨g_cb hC w1 k3 k2 k4 hcz hR, hC.2.2.1 _ k1⟩ ⟨gPc_blind, fun U hU hw => ⟨rfl, hI.toB hC hU hw⟩⟩ rfl hn hsize rfl (lv_room hW) hdg hcs
theorem g_backi {Q : Int32 → gS → Prop} {a : Array Value} (hI : gI D cy ad A s.heap σ H locs) (hr : va_Run p l e R s m args below meth c H locs cells slots 0 0 (F0 m pc ls st0) rest (va_Qi Q (gB D cy ad A) A a) A)
    (kk : ∀ (r : Int32) (σ1 : gS) (H1 : Heap) (locs1 : List Loc), Q r σ1 → gI D cy ad A s.heap σ1 H1 locs1 → W p l e R s m args below meth c H1 locs1 cells slots Z (F0 m (pc + 3) ls (.int r :: rest))) : W p l e R s m args below meth c H locs cells slots Z (F0 m pc ls st0) :=
  va_calli hr hI.2.2 (fun _ _ h => h) (fun _ h => h) (fun r u _ H1 locs1 ht _ hp hb _ _ hS => kk r u H1 locs1 hp ⟨by rw [← ht]; exact hb.1, hb.2.2.1, hS⟩)
theorem g_backv {Q : gS → Prop} {a : Array Value} (hI : gI D cy ad A s.heap σ H locs) (hr : va_Run p l e R s m args below meth c H locs cells slots 0 0 (F0 m pc ls st0) rest (va_Qv Q (gB D cy ad A) A a) A)
    (kk : ∀ (σ1 : gS) (H1 : Heap) (locs1 : List Loc), Q σ1 → gI D cy ad A s.heap σ1 H1 locs1 → W p l e R s m args below meth c H1 locs1 cells slots Z (F0 m (pc + 3) ls rest)) : W p l e R s m args below meth c H locs cells slots Z (F0 m pc ls st0) :=
  va_callv hr hI.2.2 (fun _ _ h => h) (fun _ h => h) (fun u _ H1 locs1 ht _ hp hb _ _ hS => kk u H1 locs1 hp ⟨by rw [← ht]; exact hb.1, hb.2.2.1, hS⟩)
end GCALLS
end
section
/-! ARRAYS BY A VARIABLE, AND System.arraycopy -/
section GMORE
variable {p : Program} {l : Launch} {e : Env} {R : Room} {s : State} {m : MethodId} {args : Array Value} {below : List Frame} {meth : Method} {c : Code} {H : Heap} {locs : List Loc} {cells slots : Nat} {Q : State → Prop} {cc : ByteArray} {pc : Nat} {ls : Array Slot} {rest : List Value} {D : va_G} {cy : Nat → ClassId} {ad : Nat → Nat} {A : Nat → Prop} {σ : gS} {own : String} {index : Nat}
def gArr (cy : Nat → ClassId) (ad : Nat → Nat) (ca ka na : Nat) : Prop := ∀ σ : gS, (gW cy ad σ)[ca]? = some (ad ca, .inl (cy 0, na, .inl (σ ka))) ∧ ∀ (i : Nat) (v : Int32), (gW cy ad σ).set ca (ad ca, .inl (cy 0, na, .inl (upd (σ ka) i v))) = gW cy ad (gu σ ka i v)
theorem gax {ca ka na : Nat} (ha : gArr cy ad ca ka na) (hC : gC p c cc s m args own D cy ad A) (hI : gI D cy ad A s.heap σ H locs) {i : Int32} (hin : vp_in i na) (hdg : decode cc pc = .ok (.iaload, 1)) (kk : W p l e R s m args below meth c H locs cells slots Q (F0 m (pc + 1) ls (.int (σ ka i.toNatClampNeg) :: rest))) : W p l e R s m args below meth c H locs cells slots Q (F0 m pc ls (.int i :: .ref (ad ca) :: rest)) :=
  va_iald hC.1 hC.2.1 hC.2.2.2.2.1 hI.1 ca 0 (ha σ).1 rfl hin hdg kk
theorem gsx {ca ka na : Nat} (ha : gArr cy ad ca ka na) (hC : gC p c cc s m args own D cy ad A) (hI : gI D cy ad A s.heap σ H locs) {i v : Int32} (hin : vp_in i na) (hdg : decode cc pc = .ok (.iastore, 1)) (kk : ∀ (σ1 : gS) (H1 : Heap) (locs1 : List Loc), σ1 = gu σ ka i.toNatClampNeg v → gI D cy ad A s.heap σ1 H1 locs1 → W p l e R s m args below meth c H1 locs1 cells slots Q (F0 m (pc + 1) ls rest)) : W p l e R s m args below meth c H locs cells slots Q (F0 m pc ls (.int v :: .int i :: .ref (ad ca) :: rest)) :=
  va_iast hC.1 hC.2.1 hC.2.2.2.2.1 hI.1 hI.2.1 hI.2.2 ca 0 (ha σ).1 rfl hin hdg (fun H1 locs1 hP hD hS => kk _ H1 locs1 rfl ⟨cast (congrArg (fun w => va_P D vwCl w H1) ((ha σ).2 _ _)) hP, cast (congrArg (fun w => va_D A w) ((ha σ).2 _ _)) hD, hS⟩)
theorem glx {ca ka na : Nat} (ha : gArr cy ad ca ka na) (hC : gC p c cc s m args own D cy ad A) (hI : gI D cy ad A s.heap σ H locs) (hdg : decode cc pc = .ok (.arraylength, 1)) (kk : W p l e R s m args below meth c H locs cells slots Q (F0 m (pc + 1) ls (.int (nI na) :: rest))) : W p l e R s m args below meth c H locs cells slots Q (F0 m pc ls (.ref (ad ca) :: rest)) :=
  va_alen hC.1 hC.2.1 hC.2.2.2.2.1 hI.1 ca 0 (ha σ).1 rfl rfl hdg kk
/-- the first n places of one row copied into another's -/
def gcp (σ : gS) (k0 k1 n : Nat) : gS := fun k => if k = k1 then va_cpy (σ k0) (σ k1) 0 0 n else σ k
end GMORE
/-! TEXTS: String's members over the constants -/
section GTEXT
variable {p : Program} {l : Launch} {e : Env} {R : Room} {s : State} {m : MethodId} {args : Array Value} {below : List Frame} {meth : Method} {c : Code} {H : Heap} {locs : List Loc} {cells slots : Nat} {Q : State → Prop} {cc : ByteArray} {pc : Nat} {ls : Array Slot} {rest : List Value} {D : va_G} {cy : Nat → ClassId} {ad : Nat → Nat} {A : Nat → Prop} {σ : gS} {own : String} {index : Nat}
theorem gC.Z (hC : gC p c cc s m args own D cy ad A) : gZ ad A s s.heap := hC.2.2.2.2.2.2
theorem gx_coder {i : Nat} (hi : i < 14) (hC : gC p c cc s m args own D cy ad A) (hI : gI D cy ad A s.heap σ H locs) (hL : Cond.fieldLink own index "java/lang/String" "coder" "B" ∈ gG) (hdg : decode cc pc = .ok (.getfield index, 3)) (kk : W p l e R s m args below meth c H locs cells slots Q (F0 m (pc + 3) ls (.int 0 :: rest))) : W p l e R s m args below meth c H locs cells slots Q (F0 m pc ls (.ref (ad (200 + i)) :: rest)) :=
  vk_getf hC.1 hC.2.1 (hC.Z.2.2.2.2.1 i hi).2.1 hI.2.2 hC.2.2.2.1 (hC.2.2.1 _ hL) (fun _ h => h) hdg kk
theorem gx_value {i : Nat} (hi : i < 14) (hC : gC p c cc s m args own D cy ad A) (hI : gI D cy ad A s.heap σ H locs) (hL : Cond.fieldLink own index "java/lang/String" "value" "[B" ∈ gG) (hdg : decode cc pc = .ok (.getfield index, 3)) (kk : W p l e R s m args below meth c H locs cells slots Q (F0 m (pc + 3) ls (.ref (ad (220 + i)) :: rest))) : W p l e R s m args below meth c H locs cells slots Q (F0 m pc ls (.ref (ad (200 + i)) :: rest)) :=
  vk_getf hC.1 hC.2.1 (hC.Z.2.2.2.2.1 i hi).2.2.1 hI.2.2 hC.2.2.2.1 (hC.2.2.1 _ hL) (fun _ h => h) hdg kk
theorem gx_compact (hC : gC p c cc s m args own D cy ad A) (hI : gI D cy ad A s.heap σ H locs) (hL : Cond.fieldLink own index "java/lang/String" "COMPACT_STRINGS" "Z" ∈ gG) (hdg : decode cc pc = .ok (.getstatic index, 3)) (kk : W p l e R s m args below meth c H locs cells slots Q (F0 m (pc + 3) ls (.int 1 :: rest))) : W p l e R s m args below meth c H locs cells slots Q (F0 m pc ls rest) :=
  va_gets hC.1 hC.2.1 hC.Z.2.2.1 hI.2.2 hC.2.2.2.1 (hC.2.2.1 _ hL) (fun _ h => h) hdg kk
theorem gx_form (hC : gC p c cc s m args own D cy ad A) (hI : gI D cy ad A s.heap σ H locs) (hL : Cond.fieldLink own index "jdk/internal/util/Preconditions" "SIOOBE_FORMATTER" "Ljava/util/function/BiFunction;" ∈ gG) (hdg : decode cc pc = .ok (.getstatic index, 3)) (k0 : W p l e R s m args below meth c H locs cells slots Q (F0 m (pc + 3) ls (.null :: rest))) (k1 : ∀ a : Nat, W p l e R s m args below meth c H locs cells slots Q (F0 m (pc + 3) ls (.ref a :: rest))) : W p l e R s m args below meth c H locs cells slots Q (F0 m pc ls rest) := by
  rcases hC.Z.2.2.2.1 with h | ⟨a, h⟩
  · exact va_gets hC.1 hC.2.1 h hI.2.2 hC.2.2.2.1 (hC.2.2.1 _ hL) (fun _ h => h) hdg k0
  · exact va_gets hC.1 hC.2.1 h hI.2.2 hC.2.2.2.1 (hC.2.2.1 _ hL) (fun _ h => h) hdg (k1 a)
theorem gx_len {i : Nat} (hi : i < 14) (hC : gC p c cc s m args own D cy ad A) (hI : gI D cy ad A s.heap σ H locs) (hdg : decode cc pc = .ok (.arraylength, 1)) (kk : W p l e R s m args below meth c H locs cells slots Q (F0 m (pc + 1) ls (.int (nI (gTn i)) :: rest))) : W p l e R s m args below meth c H locs cells slots Q (F0 m pc ls (.ref (ad (220 + i)) :: rest)) :=
  va_tlen hC.1 hC.2.1 (hC.Z.2.2.2.2.1 i hi).2.2.2 hI.2.2 rfl hdg kk
theorem gx_at {i : Nat} (hi : i < 14) (hC : gC p c cc s m args own D cy ad A) (hI : gI D cy ad A s.heap σ H locs) {x : Int32} (hin : vp_in x (gTn i)) (hdg : decode cc pc = .ok (.baload, 1)) (kk : W p l e R s m args below meth c H locs cells slots Q (F0 m (pc + 1) ls (.int (gTc i x.toNatClampNeg) :: rest))) : W p l e R s m args below meth c H locs cells slots Q (F0 m pc ls (.int x :: .ref (ad (220 + i)) :: rest)) :=
  va_tb hC.1 hC.2.1 (hC.Z.2.2.2.2.1 i hi).2.2.2 hI.2.2 hin rfl hdg kk
theorem gx_recv {i : Nat} (hi : i < 14) (hC : gC p c cc s m args own D cy ad A) (hI : gI D cy ad A s.heap σ H locs) : ∃ cell : Cell, H[ad (200 + i)]? = some cell ∧ cell.vm.isStatics = false ∧ s.vm.findClass "java/lang/String" = some cell.cls := by
  obtain ⟨cell, h1, h2, h3, -⟩ := (hC.Z.2.2.2.2.1 i hi).1.kept hI.2.2.2.1
  exact ⟨cell, h1, h2, h3⟩
theorem gx_ldc {tx : String} {i : Nat} (hq : (own, index, tx, i) ∈ gRl) (hC : gC p c cc s m args own D cy ad A) (hdg : decode cc pc = .ok (.ldc index, 2)) (kk : W p l e R s m args below meth c H locs cells slots Q (F0 m (pc + 2) ls (.ref (ad (200 + i)) :: rest))) : W p l e R s m args below meth c H locs cells slots Q (F0 m pc ls rest) :=
  va_ldcS hC.1 hC.2.1 hC.2.2.2.1 (hC.Z.2.2.2.2.2.1 _ hq) hdg kk
theorem gx_ldcw {tx : String} {i : Nat} (hq : (own, index, tx, i) ∈ gRl) (hC : gC p c cc s m args own D cy ad A) (hdg : decode cc pc = .ok (.ldc_w index, 3)) (kk : W p l e R s m args below meth c H locs cells slots Q (F0 m (pc + 3) ls (.ref (ad (200 + i)) :: rest))) : W p l e R s m args below meth c H locs cells slots Q (F0 m pc ls rest) := by
  intro T hT X
  obtain ⟨t, a1, b1⟩ := kk T hT X
  have hZ := hC.Z.2.2.2.2.2.1 _ hq
  exact ⟨t, X.ldcStringW hC.1 hC.2.2.2.1 (text := tx) (a := ad (200 + i)) hZ.1 hZ.2 (g := F0 m pc ls rest) rfl (by rw [hC.2.1]; exact hdg) t a1, b1⟩
/-- a char answer -/
def gc16 (v : Int32) : Prop := narrow .char (.int v) = .int v
theorem g_nret {ty : FieldType} {Q : Int32 → gS → Prop} {v : Int32} (hC : gC p c cc s m args own D cy ad A) (hr : meth.sig.returnType = some ty) (hlocks : meth.locks = false) (hz : narrow ty (.int v) = .int v) (hI : gI D cy ad A s.heap σ H locs) (h : Q v σ) (hdg : decode cc pc = .ok (.ireturn, 1)) :
    W p l e R s m args below meth c H locs cells slots (MQ below (va_Qi Q (gB D cy ad A) A) args s cells slots A) (F0 m pc ls [.int v]) :=
  W.zret (v := v) hC.1 hC.2.1 hr hz (fun _ ht hW => ⟨⟨v, σ, rfl, h, hI.toB hC ht hW⟩, hI.2.2.F ht⟩) hI.2.2.2.2 hdg hlocks
end GTEXT
end
section
/-! THROWS: what leaves a method of the class; its catching by the law's own methods -/
abbrev gNames : List String := ["java/lang/RuntimeException", "java/lang/Exception"]
def gBX (D : va_G) (cy : Nat → ClassId) (ad : Nat → Nat) (A : Nat → Prop) : String → Nat × gS → State → Prop := fun E u t => (u.1 < 3 ∧ E = gEx u.1) ∧ va_P D vwCl (gW cy ad u.2) t.heap ∧ va_D A (gW cy ad u.2)
abbrev gXX (D : va_G) (cy : Nat → ClassId) (ad : Nat → Nat) (A : Nat → Prop) (X : Nat → gS → Prop) : String → State → State → Prop := vx_X (fun u : Nat × gS => X u.1 u.2) (gBX D cy ad A) A
section GTHROWS
variable {p : Program} {l : Launch} {e : Env} {R : Room} {s s₁ : State} {m : MethodId} {args : Array Value} {below : List Frame} {meth : Method} {c : Code} {H : Heap} {locs : List Loc} {cells slots : Nat} {Z : State → Prop} {cc : ByteArray} {pc : Nat} {ls : Array Slot} {rest : List Value} {D : va_G} {cy : Nat → ClassId} {ad : Nat → Nat} {A : Nat → Prop} {σ : gS} {own : String} {index : Nat} {Qc : Array Value → State → Outcome → State → Prop} {X : Nat → gS → Prop} {mc ms mc1 ms1 : Nat}
variable {y : MethodName} {C : String} {bytes : ByteArray} {maxL n nL : Nat} {ret : Option FieldType} {rm : Room} {As st0 : List Value} {b : Nat}
theorem gta_0 : ∀ w ∈ (vx_at0 RX8 231 "java/lang/IndexOutOfBoundsException" gNames).filter goodWord, w ∈ gG := fun w h => gG_in ((by decide +kernel : ∀ w ∈ (vx_at0 RX8 231 "java/lang/IndexOutOfBoundsException" gNames).filter goodWord, w ∈ lw_tbl) w h) (List.mem_filter.mp h).2
theorem gtn_0 : ∀ w ∈ (vx_at0 RX8 231 "java/lang/IndexOutOfBoundsException" gNames).filter (fun w => !goodWord w), w ∈ gNl := by decide +kernel
theorem gtg_0 : ∀ w ∈ Cond.classLink RX8 229 "java/lang/IndexOutOfBoundsException" :: Cond.initialized "java/lang/IndexOutOfBoundsException" :: vx_at0 RX8 231 "java/lang/IndexOutOfBoundsException" gNames, vx_ot w = true := by decide +kernel
theorem gth_0 (hst : l.stackTraces = false) (hC : gC p c cc s m args RX8 D cy ad A) (hI : gI D cy ad A s.heap σ H locs) (hml : c.maxLocals = nL) (hsz : ls.size = nL) (ht : ∀ x ∈ c.exceptionTable.toList, False) (hlocks : meth.locks = false) (h : X 0 σ) (d0 : decode cc pc = .ok (.new 229, 3)) (d3 : decode cc (pc + 3) = .ok (.dup, 1)) (d4 : decode cc (pc + 4) = .ok (.invokespecial 231, 3)) (d7 : decode cc (pc + 7) = .ok (.athrow, 1))
    (hRf : 5 < R.frames) (hRl : (rest.map fun v => v.category).sum + 81 ≤ R.locals) (hRc : cells + 1 ≤ R.cells) (hRs : slots + 6 ≤ R.slots) (hc : cells + 1 ≤ mc) (hs : slots + 6 ≤ ms) :
    W p l e R s m args below meth c H locs cells slots (vx_MQ below Qc (gXX D cy ad A X) args s mc ms A) (F0 m pc ls rest) :=
  vx_throw0 (names := gNames) (cls := "java/lang/IndexOutOfBoundsException") hC.1 hC.2.1 hst hC.2.2.2.1 (by decide) (by decide) (hC.2.2.1 _ gw_3_36) (hC.2.2.1 _ gw_1_15) (vx_hat (fun w hw => hC.2.2.1 w (gta_0 w hw)) gtn_0 (fun w hw => va_Nw.use (gNl_on w hw) (hC.Z.2.2.2.2.2.2.1 w hw))) gtg_0 hC.Z.1 hC.Z.2.1 hI.2.2 (hsz.trans hml.symm) d0 d3 d4 d7 (fun x hx => (ht x hx).elim) hRf hRl hRc hRs hlocks
    (fun t _ hz hk => ⟨(0, σ), h, ⟨⟨Nat.le_of_ble_eq_true rfl, rfl⟩, hI.1.kept (fun k q hq => hk q.1 (hI.1 k q hq).lt), hI.2.1⟩, ⟨Nat.le_trans hI.2.2.1 hz, fun q h1 h2 => by rw [hk q (Nat.lt_of_lt_of_le h1 hI.2.2.1)]; exact hI.2.2.2.1 q h1 h2⟩⟩) hI.2.2.2.2 hc hs
theorem gta_1 : ∀ w ∈ (vx_at0 RX8 128 "java/lang/IllegalArgumentException" gNames).filter goodWord, w ∈ gG := fun w h => gG_in ((by decide +kernel : ∀ w ∈ (vx_at0 RX8 128 "java/lang/IllegalArgumentException" gNames).filter goodWord, w ∈ lw_tbl) w h) (List.mem_filter.mp h).2
theorem gtn_1 : ∀ w ∈ (vx_at0 RX8 128 "java/lang/IllegalArgumentException" gNames).filter (fun w => !goodWord w), w ∈ gNl := by decide +kernel
theorem gtg_1 : ∀ w ∈ Cond.classLink RX8 126 "java/lang/IllegalArgumentException" :: Cond.initialized "java/lang/IllegalArgumentException" :: vx_at0 RX8 128 "java/lang/IllegalArgumentException" gNames, vx_ot w = true := by decide +kernel
theorem gth_1 (hst : l.stackTraces = false) (hC : gC p c cc s m args RX8 D cy ad A) (hI : gI D cy ad A s.heap σ H locs) (hml : c.maxLocals = nL) (hsz : ls.size = nL) (ht : ∀ x ∈ c.exceptionTable.toList, False) (hlocks : meth.locks = false) (h : X 1 σ) (d0 : decode cc pc = .ok (.new 126, 3)) (d3 : decode cc (pc + 3) = .ok (.dup, 1)) (d4 : decode cc (pc + 4) = .ok (.invokespecial 128, 3)) (d7 : decode cc (pc + 7) = .ok (.athrow, 1))
    (hRf : 5 < R.frames) (hRl : (rest.map fun v => v.category).sum + 81 ≤ R.locals) (hRc : cells + 1 ≤ R.cells) (hRs : slots + 6 ≤ R.slots) (hc : cells + 1 ≤ mc) (hs : slots + 6 ≤ ms) :
    W p l e R s m args below meth c H locs cells slots (vx_MQ below Qc (gXX D cy ad A X) args s mc ms A) (F0 m pc ls rest) :=
  vx_throw0 (names := gNames) (cls := "java/lang/IllegalArgumentException") hC.1 hC.2.1 hst hC.2.2.2.1 (by decide) (by decide) (hC.2.2.1 _ gw_3_122) (hC.2.2.1 _ gw_1_16) (vx_hat (fun w hw => hC.2.2.1 w (gta_1 w hw)) gtn_1 (fun w hw => va_Nw.use (gNl_on w hw) (hC.Z.2.2.2.2.2.2.1 w hw))) gtg_1 hC.Z.1 hC.Z.2.1 hI.2.2 (hsz.trans hml.symm) d0 d3 d4 d7 (fun x hx => (ht x hx).elim) hRf hRl hRc hRs hlocks
    (fun t _ hz hk => ⟨(1, σ), h, ⟨⟨Nat.le_of_ble_eq_true rfl, rfl⟩, hI.1.kept (fun k q hq => hk q.1 (hI.1 k q hq).lt), hI.2.1⟩, ⟨Nat.le_trans hI.2.2.1 hz, fun q h1 h2 => by rw [hk q (Nat.lt_of_lt_of_le h1 hI.2.2.1)]; exact hI.2.2.2.1 q h1 h2⟩⟩) hI.2.2.2.2 hc hs
theorem gta_2 : ∀ w ∈ (vx_at0 RX8 102 "java/lang/UnsupportedOperationException" gNames).filter goodWord, w ∈ gG := fun w h => gG_in ((by decide +kernel : ∀ w ∈ (vx_at0 RX8 102 "java/lang/UnsupportedOperationException" gNames).filter goodWord, w ∈ lw_tbl) w h) (List.mem_filter.mp h).2
theorem gtn_2 : ∀ w ∈ (vx_at0 RX8 102 "java/lang/UnsupportedOperationException" gNames).filter (fun w => !goodWord w), w ∈ gNl := by decide +kernel
theorem gtg_2 : ∀ w ∈ Cond.classLink RX8 100 "java/lang/UnsupportedOperationException" :: Cond.initialized "java/lang/UnsupportedOperationException" :: vx_at0 RX8 102 "java/lang/UnsupportedOperationException" gNames, vx_ot w = true := by decide +kernel
theorem gth_2 (hst : l.stackTraces = false) (hC : gC p c cc s m args RX8 D cy ad A) (hI : gI D cy ad A s.heap σ H locs) (hml : c.maxLocals = nL) (hsz : ls.size = nL) (ht : ∀ x ∈ c.exceptionTable.toList, False) (hlocks : meth.locks = false) (h : X 2 σ) (d0 : decode cc pc = .ok (.new 100, 3)) (d3 : decode cc (pc + 3) = .ok (.dup, 1)) (d4 : decode cc (pc + 4) = .ok (.invokespecial 102, 3)) (d7 : decode cc (pc + 7) = .ok (.athrow, 1))
    (hRf : 5 < R.frames) (hRl : (rest.map fun v => v.category).sum + 81 ≤ R.locals) (hRc : cells + 1 ≤ R.cells) (hRs : slots + 6 ≤ R.slots) (hc : cells + 1 ≤ mc) (hs : slots + 6 ≤ ms) :
    W p l e R s m args below meth c H locs cells slots (vx_MQ below Qc (gXX D cy ad A X) args s mc ms A) (F0 m pc ls rest) :=
  vx_throw0 (names := gNames) (cls := "java/lang/UnsupportedOperationException") hC.1 hC.2.1 hst hC.2.2.2.1 (by decide) (by decide) (hC.2.2.1 _ gw_3_137) (hC.2.2.1 _ gw_1_17) (vx_hat (fun w hw => hC.2.2.1 w (gta_2 w hw)) gtn_2 (fun w hw => va_Nw.use (gNl_on w hw) (hC.Z.2.2.2.2.2.2.1 w hw))) gtg_2 hC.Z.1 hC.Z.2.1 hI.2.2 (hsz.trans hml.symm) d0 d3 d4 d7 (fun x hx => (ht x hx).elim) hRf hRl hRc hRs hlocks
    (fun t _ hz hk => ⟨(2, σ), h, ⟨⟨Nat.le_of_ble_eq_true rfl, rfl⟩, hI.1.kept (fun k q hq => hk q.1 (hI.1 k q hq).lt), hI.2.1⟩, ⟨Nat.le_trans hI.2.2.1 hz, fun q h1 h2 => by rw [hk q (Nat.lt_of_lt_of_le h1 hI.2.2.1)]; exact hI.2.2.2.1 q h1 h2⟩⟩) hI.2.2.2.2 hc hs
theorem gy_iret {Q : Int32 → gS → Prop} {v : Int32} (hC : gC p c cc s m args own D cy ad A) (hr : meth.sig.returnType = some .int) (hlocks : meth.locks = false) (hI : gI D cy ad A s.heap σ H locs) (h : Q v σ) (hc : cells ≤ mc) (hs : slots ≤ ms) (hdg : decode cc pc = .ok (.ireturn, 1)) :
    W p l e R s m args below meth c H locs cells slots (vx_MQ below (va_Qi Q (gB D cy ad A) A) (gXX D cy ad A X) args s mc ms A) (F0 m pc ls [.int v]) := W.widen hc hs (vx_ret (g_iret hC hr hlocks hI h hdg))
theorem gy_zret {Q : Int32 → gS → Prop} {v : Int32} (hC : gC p c cc s m args own D cy ad A) (hr : meth.sig.returnType = some .boolean) (hlocks : meth.locks = false) (hz : gz v) (hI : gI D cy ad A s.heap σ H locs) (h : Q v σ) (hc : cells ≤ mc) (hs : slots ≤ ms) (hdg : decode cc pc = .ok (.ireturn, 1)) :
    W p l e R s m args below meth c H locs cells slots (vx_MQ below (va_Qi Q (gB D cy ad A) A) (gXX D cy ad A X) args s mc ms A) (F0 m pc ls [.int v]) := W.widen hc hs (vx_ret (g_zret hC hr hlocks hz hI h hdg))
theorem gy_vret {Q : gS → Prop} (hC : gC p c cc s m args own D cy ad A) (hr : meth.sig.returnType = none) (hlocks : meth.locks = false) (hI : gI D cy ad A s.heap σ H locs) (h : Q σ) (hc : cells ≤ mc) (hs : slots ≤ ms) (hdg : decode cc pc = .ok (.return_, 1)) :
    W p l e R s m args below meth c H locs cells slots (vx_MQ below (va_Qv Q (gB D cy ad A) A) (gXX D cy ad A X) args s mc ms A) (F0 m pc ls []) := W.widen hc hs (vx_ret (g_vret hC hr hlocks hI h hdg))
theorem gy_cb (hC : gC p c cc s m args own D cy ad A) (w1 : Cond.methodLink own index y ∈ gG) (hc : Cond.code y bytes maxL ret ∈ gG) (hi : Cond.initialized y.cls ∈ gG) (hd : y.cls ≠ "java/lang/invoke/MethodHandle" ∧ y.cls ≠ "java/lang/invoke/VarHandle" ∧ (parseMethodDescriptor y.desc).map (fun d => d.parameters.length) = some n) (hcz : rm.cells = mc1 ∧ rm.slots = ms1) (hR : rm.frames + 1 ≤ R.frames ∧ 8 + (maxL + 11) + rm.locals ≤ R.locals) :
    CallB R s args own index y bytes maxL ret (Cond.code y bytes maxL ret :: gG) rm mc1 ms1 n :=
  callB_of n hC.2.2.1 (g_good hc) rfl hcz.1 hcz.2 (hC.2.2.1 _ hi) (hC.2.2.1 _ w1) hd hR
theorem gy_runV {XC : String → State → State → Prop} (hC : gC p c cc s m args own D cy ad A) (hml : c.maxLocals = nL) (hI : gI D cy ad A s.heap σ H locs) (hM : vx_Met l y (Cond.code y bytes maxL ret :: gG) rm (va_Pc (.ref b :: As) (gB D cy ad A σ)) Qc XC mc1 ms1 A) (hk : gCV y C bytes maxL ret n) (w1 : Cond.methodLink own index y ∈ gG) (hcz : rm.cells = mc1 ∧ rm.slots = ms1) (hR : rm.frames + 1 ≤ R.frames ∧ 8 + (maxL + 11) + rm.locals ≤ R.locals)
    (hv : ∃ cell : Cell, H[b]? = some cell ∧ cell.vm.isStatics = false ∧ s.vm.findClass C = some cell.cls) (hn : As.length = n) (hsize : ls.size = nL) (hst : st0 = As.reverse ++ .ref b :: rest) (hW : (rest.map fun v => v.category).sum ≤ 8) (hdg : decode cc pc = .ok (.invokevirtual index, 3)) (hcs : cells + mc1 ≤ R.cells ∧ slots + ms1 ≤ R.slots) :
    vx_Run p l e R s m args below meth c H locs cells slots mc1 ms1 (F0 m pc ls st0) rest (Qc (Value.ref b :: As).toArray) XC A := by
  subst hst
  obtain ⟨k1, k2, k3, k4, k5, k6⟩ := hk
  exact vx_runV (C := C) ⟨hC.1, hC.2.1, hml, hC.2.2.2.1, hC.2.2.1⟩ hM ⟨gy_cb hC w1 k4 (by rw [k5]; exact k3) k6 hcz hR, hC.2.2.1 _ k1, hC.2.2.1 _ k2⟩ ⟨gPc_blind, hv, fun U hU hw => ⟨rfl, hI.toB hC hU hw⟩⟩ rfl hn hsize rfl (lv_room hW) hdg hcs
theorem gy_runS {XC : String → State → State → Prop} (hC : gC p c cc s m args own D cy ad A) (hml : c.maxLocals = nL) (hI : gI D cy ad A s.heap σ H locs) (hM : vx_Met l y (Cond.code y bytes maxL ret :: gG) rm (va_Pc As (gB D cy ad A σ)) Qc XC mc1 ms1 A) (hk : gCS y bytes maxL ret n) (w1 : Cond.methodLink own index y ∈ gG) (hcz : rm.cells = mc1 ∧ rm.slots = ms1) (hR : rm.frames + 1 ≤ R.frames ∧ 8 + (maxL + 11) + rm.locals ≤ R.locals)
    (hn : As.length = n) (hsize : ls.size = nL) (hst : st0 = As.reverse ++ rest) (hW : (rest.map fun v => v.category).sum ≤ 8) (hdg : decode cc pc = .ok (.invokestatic index, 3)) (hcs : cells + mc1 ≤ R.cells ∧ slots + ms1 ≤ R.slots) :
    vx_Run p l e R s m args below meth c H locs cells slots mc1 ms1 (F0 m pc ls st0) rest (Qc As.toArray) XC A := by
  subst hst
  obtain ⟨k1, k2, k3, k4⟩ := hk
  exact vx_runS ⟨hC.1, hC.2.1, hml, hC.2.2.2.1, hC.2.2.1⟩ hM ⟨gy_cb hC w1 k3 k2 k4 hcz hR, hC.2.2.1 _ k1⟩ ⟨gPc_blind, fun U hU hw => ⟨rfl, hI.toB hC hU hw⟩⟩ rfl hn hsize rfl (lv_room hW) hdg hcs
/-- behind a call that may throw; what is thrown goes by kx -/
theorem gy_backi {Q : Int32 → gS → Prop} {a : Array Value} (hI : gI D cy ad A s.heap σ H locs) (hr : vx_Run p l e R s m args below meth c H locs cells slots mc1 ms1 (F0 m pc ls st0) rest (va_Qi Q (gB D cy ad A) A a) (gXX D cy ad A X) A)
    (kx : ∀ (k : Nat) (σ1 : gS) (H1 : Heap) (locs1 : List Loc) (ce : Cell) (q : Addr), k < 3 → X k σ1 → gI D cy ad A s.heap σ1 H1 locs1 → H1[q]? = some ce → ce.vm = .none → s.vm.findClass (gEx k) = some ce.cls → vx_W p l e R s m args below meth c H1 locs1 (cells + mc1) (slots + ms1) Z (F0 m pc ls rest) q)
    (kk : ∀ (r : Int32) (σ1 : gS) (H1 : Heap) (locs1 : List Loc), Q r σ1 → gI D cy ad A s.heap σ1 H1 locs1 → W p l e R s m args below meth c H1 locs1 (cells + mc1) (slots + ms1) Z (F0 m (pc + 3) ls (.int r :: rest))) : W p l e R s m args below meth c H locs cells slots Z (F0 m pc ls st0) :=
  vx_calli hr hI.2.2 (fun _ _ h => h) (fun _ h => h) (fun _ _ h => h) (fun E ce q u t H1 locs1 ht _ hp hb _ _ hS h1 h2 h3 => by
    obtain ⟨⟨hk, rfl⟩, hP, hD⟩ := hb
    exact kx u.1 u.2 H1 locs1 ce q hk hp ⟨by rw [← ht]; exact hP, hD, hS⟩ h1 h2 h3) (fun r u _ H1 locs1 ht _ hp hb _ _ hS => kk r u H1 locs1 hp ⟨by rw [← ht]; exact hb.1, hb.2.2.1, hS⟩)
theorem gy_backv {Q : gS → Prop} {a : Array Value} (hI : gI D cy ad A s.heap σ H locs) (hr : vx_Run p l e R s m args below meth c H locs cells slots mc1 ms1 (F0 m pc ls st0) rest (va_Qv Q (gB D cy ad A) A a) (gXX D cy ad A X) A)
    (kx : ∀ (k : Nat) (σ1 : gS) (H1 : Heap) (locs1 : List Loc) (ce : Cell) (q : Addr), k < 3 → X k σ1 → gI D cy ad A s.heap σ1 H1 locs1 → H1[q]? = some ce → ce.vm = .none → s.vm.findClass (gEx k) = some ce.cls → vx_W p l e R s m args below meth c H1 locs1 (cells + mc1) (slots + ms1) Z (F0 m pc ls rest) q)
    (kk : ∀ (σ1 : gS) (H1 : Heap) (locs1 : List Loc), Q σ1 → gI D cy ad A s.heap σ1 H1 locs1 → W p l e R s m args below meth c H1 locs1 (cells + mc1) (slots + ms1) Z (F0 m (pc + 3) ls rest)) : W p l e R s m args below meth c H locs cells slots Z (F0 m pc ls st0) :=
  vx_callv hr hI.2.2 (fun _ _ h => h) (fun _ h => h) (fun _ _ h => h) (fun E ce q u t H1 locs1 ht _ hp hb _ _ hS h1 h2 h3 => by
    obtain ⟨⟨hk, rfl⟩, hP, hD⟩ := hb
    exact kx u.1 u.2 H1 locs1 ce q hk hp ⟨by rw [← ht]; exact hP, hD, hS⟩ h1 h2 h3) (fun u _ H1 locs1 ht _ hp hb _ _ hS => kk u H1 locs1 hp ⟨by rw [← ht]; exact hb.1, hb.2.2.1, hS⟩)
/-- it goes on to the caller -/
theorem gy_on {k : Nat} {ce : Cell} {q : Addr} (ht : ∀ x ∈ c.exceptionTable.toList, False) (hlocks : meth.locks = false) (hk : k < 3) (h : X k σ) (hI : gI D cy ad A s.heap σ H locs) (h1 : H[q]? = some ce) (h2 : ce.vm = .none) (h3 : s.vm.findClass (gEx k) = some ce.cls) (hc : cells ≤ mc) (hs : slots ≤ ms) :
    vx_W p l e R s m args below meth c H locs cells slots (vx_MQ below Qc (gXX D cy ad A X) args s mc ms A) (F0 m pc ls rest) q :=
  vx_out (fun x hx => (ht x hx).elim) hlocks h1 h2 h3 (fun t hT _ => ⟨(k, σ), h, ⟨⟨hk, rfl⟩, by rw [hT]; exact hI.1, hI.2.1⟩, hI.2.2.F hT⟩) hI.2.2.2.2 hc hs
end GTHROWS
end
