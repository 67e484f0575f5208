section
-- ===== PART A: goes FIRST, ahead of the names: the tables' words, and 'selects' of the private methods out of them =====
/-- a private method of a class that the tables say can be made, by its rows of tables_1 -/
def lw_okq (q : MethodName × Nat) : Prop := (q.1.cls ≠ "java/lang/invoke/MethodHandle" ∧ q.1.cls ≠ "java/lang/invoke/VarHandle") ∧ Cond.instantiable q.1.cls q.2 ∈ tables_1 ∧ Cond.privateMethod q.1 ∈ tables_1 ∧ Cond.instanceMethod q.1 ∈ tables_1
set_option maxRecDepth 100000 in
theorem lw_p0 : lw_okq (⟨"LinearizabilityChecker", "createObject", "(II)I"⟩, 6) := ⟨⟨by decide +kernel, by decide +kernel⟩, List.mem_of_getElem? (i := 18) rfl, List.mem_of_getElem? (i := 331) rfl, List.mem_of_getElem? (i := 332) rfl⟩
set_option maxRecDepth 100000 in
theorem lw_p1 : lw_okq (⟨"LinearizabilityChecker", "invoke", "(IIIII)I"⟩, 6) := ⟨⟨by decide +kernel, by decide +kernel⟩, List.mem_of_getElem? (i := 18) rfl, List.mem_of_getElem? (i := 382) rfl, List.mem_of_getElem? (i := 383) rfl⟩
set_option maxRecDepth 100000 in
theorem lw_p2 : lw_okq (⟨"LinearizabilityChecker", "invocationError", "(IIIII)I"⟩, 6) := ⟨⟨by decide +kernel, by decide +kernel⟩, List.mem_of_getElem? (i := 18) rfl, List.mem_of_getElem? (i := 386) rfl, List.mem_of_getElem? (i := 387) rfl⟩
set_option maxRecDepth 100000 in
theorem lw_p3 : lw_okq (⟨"LinearizabilityChecker$History", "addEvent", "(III)V"⟩, 16) := ⟨⟨by decide +kernel, by decide +kernel⟩, List.mem_of_getElem? (i := 54) rfl, List.mem_of_getElem? (i := 400) rfl, List.mem_of_getElem? (i := 401) rfl⟩
set_option maxRecDepth 100000 in
theorem lw_p4 : lw_okq (⟨"LinearizabilityChecker", "responseError", "(II)I"⟩, 6) := ⟨⟨by decide +kernel, by decide +kernel⟩, List.mem_of_getElem? (i := 18) rfl, List.mem_of_getElem? (i := 444) rfl, List.mem_of_getElem? (i := 445) rfl⟩
set_option maxRecDepth 100000 in
theorem lw_p5 : lw_okq (⟨"LinearizabilityChecker", "waitingError", "(I)I"⟩, 6) := ⟨⟨by decide +kernel, by decide +kernel⟩, List.mem_of_getElem? (i := 18) rfl, List.mem_of_getElem? (i := 448) rfl, List.mem_of_getElem? (i := 449) rfl⟩
set_option maxRecDepth 100000 in
theorem lw_p6 : lw_okq (⟨"LinearizabilityChecker", "isPrefixLinearizable", "(I)Z"⟩, 6) := ⟨⟨by decide +kernel, by decide +kernel⟩, List.mem_of_getElem? (i := 18) rfl, List.mem_of_getElem? (i := 556) rfl, List.mem_of_getElem? (i := 557) rfl⟩
set_option maxRecDepth 100000 in
theorem lw_p7 : lw_okq (⟨"LinearizabilityChecker$Search", "noteFound", "(I)V"⟩, 15) := ⟨⟨by decide +kernel, by decide +kernel⟩, List.mem_of_getElem? (i := 165) rfl, List.mem_of_getElem? (i := 581) rfl, List.mem_of_getElem? (i := 582) rfl⟩
set_option maxRecDepth 100000 in
theorem lw_p8 : lw_okq (⟨"LinearizabilityChecker$Search", "isOver", "()Z"⟩, 15) := ⟨⟨by decide +kernel, by decide +kernel⟩, List.mem_of_getElem? (i := 165) rfl, List.mem_of_getElem? (i := 586) rfl, List.mem_of_getElem? (i := 587) rfl⟩
set_option maxRecDepth 100000 in
theorem lw_p9 : lw_okq (⟨"LinearizabilityChecker$Search", "mayFollow", "(II)Z"⟩, 15) := ⟨⟨by decide +kernel, by decide +kernel⟩, List.mem_of_getElem? (i := 165) rfl, List.mem_of_getElem? (i := 590) rfl, List.mem_of_getElem? (i := 591) rfl⟩
set_option maxRecDepth 100000 in
theorem lw_p10 : lw_okq (⟨"LinearizabilityChecker$Search", "tryNext", "(III)V"⟩, 15) := ⟨⟨by decide +kernel, by decide +kernel⟩, List.mem_of_getElem? (i := 165) rfl, List.mem_of_getElem? (i := 594) rfl, List.mem_of_getElem? (i := 595) rfl⟩
set_option maxRecDepth 100000 in
theorem lw_p11 : lw_okq (⟨"LinearizabilityChecker$SharedState", "compareAndSet", "(II)I"⟩, 5) := ⟨⟨by decide +kernel, by decide +kernel⟩, List.mem_of_getElem? (i := 172) rfl, List.mem_of_getElem? (i := 602) rfl, List.mem_of_getElem? (i := 603) rfl⟩
set_option maxRecDepth 100000 in
theorem lw_p12 : lw_okq (⟨"LinearizabilityChecker$SharedState", "enqueue", "(I)I"⟩, 5) := ⟨⟨by decide +kernel, by decide +kernel⟩, List.mem_of_getElem? (i := 172) rfl, List.mem_of_getElem? (i := 606) rfl, List.mem_of_getElem? (i := 607) rfl⟩
set_option maxRecDepth 100000 in
theorem lw_p13 : lw_okq (⟨"LinearizabilityChecker$SharedState", "dequeue", "()I"⟩, 5) := ⟨⟨by decide +kernel, by decide +kernel⟩, List.mem_of_getElem? (i := 172) rfl, List.mem_of_getElem? (i := 611) rfl, List.mem_of_getElem? (i := 612) rfl⟩
set_option maxRecDepth 100000 in
theorem lw_p14 : lw_okq (⟨"LinearizabilityChecker$SharedState", "changesElement", "(IZ)Z"⟩, 5) := ⟨⟨by decide +kernel, by decide +kernel⟩, List.mem_of_getElem? (i := 172) rfl, List.mem_of_getElem? (i := 615) rfl, List.mem_of_getElem? (i := 616) rfl⟩
set_option maxRecDepth 100000 in
theorem lw_p15 : lw_okq (⟨"LinearizabilityChecker$Search", "agrees", "(II)Z"⟩, 15) := ⟨⟨by decide +kernel, by decide +kernel⟩, List.mem_of_getElem? (i := 165) rfl, List.mem_of_getElem? (i := 620) rfl, List.mem_of_getElem? (i := 621) rfl⟩
def lw_privs_1 : List (MethodName × Nat) := [(⟨"LinearizabilityChecker", "createObject", "(II)I"⟩, 6), (⟨"LinearizabilityChecker", "invoke", "(IIIII)I"⟩, 6), (⟨"LinearizabilityChecker", "invocationError", "(IIIII)I"⟩, 6), (⟨"LinearizabilityChecker$History", "addEvent", "(III)V"⟩, 16), (⟨"LinearizabilityChecker", "responseError", "(II)I"⟩, 6), (⟨"LinearizabilityChecker", "waitingError", "(I)I"⟩, 6), (⟨"LinearizabilityChecker", "isPrefixLinearizable", "(I)Z"⟩, 6), (⟨"LinearizabilityChecker$Search", "noteFound", "(I)V"⟩, 15), (⟨"LinearizabilityChecker$Search", "isOver", "()Z"⟩, 15), (⟨"LinearizabilityChecker$Search", "mayFollow", "(II)Z"⟩, 15), (⟨"LinearizabilityChecker$Search", "tryNext", "(III)V"⟩, 15), (⟨"LinearizabilityChecker$SharedState", "compareAndSet", "(II)I"⟩, 5), (⟨"LinearizabilityChecker$SharedState", "enqueue", "(I)I"⟩, 5), (⟨"LinearizabilityChecker$SharedState", "dequeue", "()I"⟩, 5), (⟨"LinearizabilityChecker$SharedState", "changesElement", "(IZ)Z"⟩, 5), (⟨"LinearizabilityChecker$Search", "agrees", "(II)Z"⟩, 15)]
theorem lw_r1 : ∀ q ∈ lw_privs_1, lw_okq q := List.forall_mem_cons.mpr ⟨lw_p0, List.forall_mem_cons.mpr ⟨lw_p1, List.forall_mem_cons.mpr ⟨lw_p2, List.forall_mem_cons.mpr ⟨lw_p3, List.forall_mem_cons.mpr ⟨lw_p4, List.forall_mem_cons.mpr ⟨lw_p5, List.forall_mem_cons.mpr ⟨lw_p6, List.forall_mem_cons.mpr ⟨lw_p7, List.forall_mem_cons.mpr ⟨lw_p8, List.forall_mem_cons.mpr ⟨lw_p9, List.forall_mem_cons.mpr ⟨lw_p10, List.forall_mem_cons.mpr ⟨lw_p11, List.forall_mem_cons.mpr ⟨lw_p12, List.forall_mem_cons.mpr ⟨lw_p13, List.forall_mem_cons.mpr ⟨lw_p14, List.forall_mem_cons.mpr ⟨lw_p15, fun _ h => absurd h List.not_mem_nil⟩⟩⟩⟩⟩⟩⟩⟩⟩⟩⟩⟩⟩⟩⟩⟩
set_option maxRecDepth 100000 in
theorem lw_p16 : lw_okq (⟨"LinearizabilityChecker", "prepareWholeHistory", "()V"⟩, 6) := ⟨⟨by decide +kernel, by decide +kernel⟩, List.mem_of_getElem? (i := 18) rfl, List.mem_of_getElem? (i := 644) rfl, List.mem_of_getElem? (i := 645) rfl⟩
set_option maxRecDepth 100000 in
theorem lw_p17 : lw_okq (⟨"LinearizabilityChecker$Search", "resultOfNext", "(I)I"⟩, 15) := ⟨⟨by decide +kernel, by decide +kernel⟩, List.mem_of_getElem? (i := 165) rfl, List.mem_of_getElem? (i := 726) rfl, List.mem_of_getElem? (i := 727) rfl⟩
set_option maxRecDepth 100000 in
theorem lw_p18 : lw_okq (⟨"LinearizabilityChecker$Parser", "takeCommand", "()V"⟩, 10) := ⟨⟨by decide +kernel, by decide +kernel⟩, List.mem_of_getElem? (i := 260) rfl, List.mem_of_getElem? (i := 758) rfl, List.mem_of_getElem? (i := 759) rfl⟩
set_option maxRecDepth 100000 in
theorem lw_p19 : lw_okq (⟨"LinearizabilityChecker$Parser", "takeDigit", "()I"⟩, 10) := ⟨⟨by decide +kernel, by decide +kernel⟩, List.mem_of_getElem? (i := 260) rfl, List.mem_of_getElem? (i := 762) rfl, List.mem_of_getElem? (i := 763) rfl⟩
set_option maxRecDepth 100000 in
theorem lw_p20 : lw_okq (⟨"LinearizabilityChecker$Parser", "isNextDigit", "()Z"⟩, 10) := ⟨⟨by decide +kernel, by decide +kernel⟩, List.mem_of_getElem? (i := 260) rfl, List.mem_of_getElem? (i := 766) rfl, List.mem_of_getElem? (i := 767) rfl⟩
set_option maxRecDepth 100000 in
theorem lw_p21 : lw_okq (⟨"LinearizabilityChecker$Parser", "isNext", "(C)Z"⟩, 10) := ⟨⟨by decide +kernel, by decide +kernel⟩, List.mem_of_getElem? (i := 260) rfl, List.mem_of_getElem? (i := 771) rfl, List.mem_of_getElem? (i := 772) rfl⟩
set_option maxRecDepth 100000 in
theorem lw_p22 : lw_okq (⟨"LinearizabilityChecker$Parser", "isAt", "(IC)Z"⟩, 10) := ⟨⟨by decide +kernel, by decide +kernel⟩, List.mem_of_getElem? (i := 260) rfl, List.mem_of_getElem? (i := 775) rfl, List.mem_of_getElem? (i := 776) rfl⟩
set_option maxRecDepth 100000 in
theorem lw_p23 : lw_okq (⟨"LinearizabilityChecker$Parser", "take", "(C)V"⟩, 10) := ⟨⟨by decide +kernel, by decide +kernel⟩, List.mem_of_getElem? (i := 260) rfl, List.mem_of_getElem? (i := 779) rfl, List.mem_of_getElem? (i := 780) rfl⟩
set_option maxRecDepth 100000 in
theorem lw_p24 : lw_okq (⟨"LinearizabilityChecker$Parser", "takeNumber", "()I"⟩, 10) := ⟨⟨by decide +kernel, by decide +kernel⟩, List.mem_of_getElem? (i := 260) rfl, List.mem_of_getElem? (i := 783) rfl, List.mem_of_getElem? (i := 784) rfl⟩
set_option maxRecDepth 100000 in
theorem lw_p25 : lw_okq (⟨"LinearizabilityChecker$Parser", "takeInvocation", "(I)V"⟩, 10) := ⟨⟨by decide +kernel, by decide +kernel⟩, List.mem_of_getElem? (i := 260) rfl, List.mem_of_getElem? (i := 787) rfl, List.mem_of_getElem? (i := 788) rfl⟩
set_option maxRecDepth 100000 in
theorem lw_p26 : lw_okq (⟨"LinearizabilityChecker$Parser", "takeName", "()I"⟩, 10) := ⟨⟨by decide +kernel, by decide +kernel⟩, List.mem_of_getElem? (i := 260) rfl, List.mem_of_getElem? (i := 791) rfl, List.mem_of_getElem? (i := 792) rfl⟩
set_option maxRecDepth 100000 in
theorem lw_p27 : lw_okq (⟨"LinearizabilityChecker$Parser", "agreeingCharacters", "(Ljava/lang/String;)I"⟩, 10) := ⟨⟨by decide +kernel, by decide +kernel⟩, List.mem_of_getElem? (i := 260) rfl, List.mem_of_getElem? (i := 808) rfl, List.mem_of_getElem? (i := 809) rfl⟩
set_option maxRecDepth 100000 in
theorem lw_p28 : lw_okq (⟨"LinearizabilityChecker", "execute", "(I)I"⟩, 6) := ⟨⟨by decide +kernel, by decide +kernel⟩, List.mem_of_getElem? (i := 18) rfl, List.mem_of_getElem? (i := 864) rfl, List.mem_of_getElem? (i := 865) rfl⟩
set_option maxRecDepth 100000 in
theorem lw_p29 : lw_okq (⟨"LinearizabilityCheckerModel", "create", "(II)I"⟩, 44) := ⟨⟨by decide +kernel, by decide +kernel⟩, List.mem_of_getElem? (i := 900) rfl, List.mem_of_getElem? (i := 1046) rfl, List.mem_of_getElem? (i := 1047) rfl⟩
set_option maxRecDepth 100000 in
theorem lw_p30 : lw_okq (⟨"LinearizabilityCheckerModel", "isObject", "(I)Z"⟩, 44) := ⟨⟨by decide +kernel, by decide +kernel⟩, List.mem_of_getElem? (i := 900) rfl, List.mem_of_getElem? (i := 1070) rfl, List.mem_of_getElem? (i := 1071) rfl⟩
set_option maxRecDepth 100000 in
theorem lw_p31 : lw_okq (⟨"LinearizabilityCheckerModel", "invoke", "(IIIII)I"⟩, 44) := ⟨⟨by decide +kernel, by decide +kernel⟩, List.mem_of_getElem? (i := 900) rfl, List.mem_of_getElem? (i := 1082) rfl, List.mem_of_getElem? (i := 1083) rfl⟩
def lw_privs_2 : List (MethodName × Nat) := [(⟨"LinearizabilityChecker", "prepareWholeHistory", "()V"⟩, 6), (⟨"LinearizabilityChecker$Search", "resultOfNext", "(I)I"⟩, 15), (⟨"LinearizabilityChecker$Parser", "takeCommand", "()V"⟩, 10), (⟨"LinearizabilityChecker$Parser", "takeDigit", "()I"⟩, 10), (⟨"LinearizabilityChecker$Parser", "isNextDigit", "()Z"⟩, 10), (⟨"LinearizabilityChecker$Parser", "isNext", "(C)Z"⟩, 10), (⟨"LinearizabilityChecker$Parser", "isAt", "(IC)Z"⟩, 10), (⟨"LinearizabilityChecker$Parser", "take", "(C)V"⟩, 10), (⟨"LinearizabilityChecker$Parser", "takeNumber", "()I"⟩, 10), (⟨"LinearizabilityChecker$Parser", "takeInvocation", "(I)V"⟩, 10), (⟨"LinearizabilityChecker$Parser", "takeName", "()I"⟩, 10), (⟨"LinearizabilityChecker$Parser", "agreeingCharacters", "(Ljava/lang/String;)I"⟩, 10), (⟨"LinearizabilityChecker", "execute", "(I)I"⟩, 6), (⟨"LinearizabilityCheckerModel", "create", "(II)I"⟩, 44), (⟨"LinearizabilityCheckerModel", "isObject", "(I)Z"⟩, 44), (⟨"LinearizabilityCheckerModel", "invoke", "(IIIII)I"⟩, 44)]
theorem lw_r2 : ∀ q ∈ lw_privs_2, lw_okq q := List.forall_mem_cons.mpr ⟨lw_p16, List.forall_mem_cons.mpr ⟨lw_p17, List.forall_mem_cons.mpr ⟨lw_p18, List.forall_mem_cons.mpr ⟨lw_p19, List.forall_mem_cons.mpr ⟨lw_p20, List.forall_mem_cons.mpr ⟨lw_p21, List.forall_mem_cons.mpr ⟨lw_p22, List.forall_mem_cons.mpr ⟨lw_p23, List.forall_mem_cons.mpr ⟨lw_p24, List.forall_mem_cons.mpr ⟨lw_p25, List.forall_mem_cons.mpr ⟨lw_p26, List.forall_mem_cons.mpr ⟨lw_p27, List.forall_mem_cons.mpr ⟨lw_p28, List.forall_mem_cons.mpr ⟨lw_p29, List.forall_mem_cons.mpr ⟨lw_p30, List.forall_mem_cons.mpr ⟨lw_p31, fun _ h => absurd h List.not_mem_nil⟩⟩⟩⟩⟩⟩⟩⟩⟩⟩⟩⟩⟩⟩⟩⟩
set_option maxRecDepth 100000 in
theorem lw_p32 : lw_okq (⟨"LinearizabilityCheckerModel", "isCrashed", "(I)Z"⟩, 44) := ⟨⟨by decide +kernel, by decide +kernel⟩, List.mem_of_getElem? (i := 900) rfl, List.mem_of_getElem? (i := 1095) rfl, List.mem_of_getElem? (i := 1096) rfl⟩
set_option maxRecDepth 100000 in
theorem lw_p33 : lw_okq (⟨"LinearizabilityCheckerModel", "pendingOf", "(I)I"⟩, 44) := ⟨⟨by decide +kernel, by decide +kernel⟩, List.mem_of_getElem? (i := 900) rfl, List.mem_of_getElem? (i := 1099) rfl, List.mem_of_getElem? (i := 1100) rfl⟩
set_option maxRecDepth 100000 in
theorem lw_p34 : lw_okq (⟨"LinearizabilityCheckerModel", "append", "(III)I"⟩, 44) := ⟨⟨by decide +kernel, by decide +kernel⟩, List.mem_of_getElem? (i := 900) rfl, List.mem_of_getElem? (i := 1103) rfl, List.mem_of_getElem? (i := 1104) rfl⟩
set_option maxRecDepth 100000 in
theorem lw_p35 : lw_okq (⟨"LinearizabilityCheckerModel", "mayRespondWith", "(II)I"⟩, 44) := ⟨⟨by decide +kernel, by decide +kernel⟩, List.mem_of_getElem? (i := 900) rfl, List.mem_of_getElem? (i := 1147) rfl, List.mem_of_getElem? (i := 1148) rfl⟩
set_option maxRecDepth 100000 in
theorem lw_p36 : lw_okq (⟨"LinearizabilityCheckerModel", "mayRespond", "(I)I"⟩, 44) := ⟨⟨by decide +kernel, by decide +kernel⟩, List.mem_of_getElem? (i := 900) rfl, List.mem_of_getElem? (i := 1151) rfl, List.mem_of_getElem? (i := 1152) rfl⟩
set_option maxRecDepth 100000 in
theorem lw_p37 : lw_okq (⟨"LinearizabilityCheckerModel", "isOperation", "(I)Z"⟩, 44) := ⟨⟨by decide +kernel, by decide +kernel⟩, List.mem_of_getElem? (i := 900) rfl, List.mem_of_getElem? (i := 1181) rfl, List.mem_of_getElem? (i := 1182) rfl⟩
set_option maxRecDepth 100000 in
theorem lw_p38 : lw_okq (⟨"LinearizabilityCheckerModel", "isBefore", "(II)Z"⟩, 44) := ⟨⟨by decide +kernel, by decide +kernel⟩, List.mem_of_getElem? (i := 900) rfl, List.mem_of_getElem? (i := 1209) rfl, List.mem_of_getElem? (i := 1210) rfl⟩
set_option maxRecDepth 100000 in
theorem lw_p39 : lw_okq (⟨"LinearizabilityCheckerModel", "isLinear", "(I)Z"⟩, 44) := ⟨⟨by decide +kernel, by decide +kernel⟩, List.mem_of_getElem? (i := 900) rfl, List.mem_of_getElem? (i := 1226) rfl, List.mem_of_getElem? (i := 1227) rfl⟩
set_option maxRecDepth 100000 in
theorem lw_p40 : lw_okq (⟨"LinearizabilityCheckerModel", "searches", "(IIZZI)I"⟩, 44) := ⟨⟨by decide +kernel, by decide +kernel⟩, List.mem_of_getElem? (i := 900) rfl, List.mem_of_getElem? (i := 1230) rfl, List.mem_of_getElem? (i := 1231) rfl⟩
set_option maxRecDepth 100000 in
theorem lw_p41 : lw_okq (⟨"LinearizabilityCheckerModel", "start", "()V"⟩, 44) := ⟨⟨by decide +kernel, by decide +kernel⟩, List.mem_of_getElem? (i := 900) rfl, List.mem_of_getElem? (i := 1234) rfl, List.mem_of_getElem? (i := 1235) rfl⟩
set_option maxRecDepth 100000 in
theorem lw_p42 : lw_okq (⟨"LinearizabilityCheckerModel", "search", "(III)V"⟩, 44) := ⟨⟨by decide +kernel, by decide +kernel⟩, List.mem_of_getElem? (i := 900) rfl, List.mem_of_getElem? (i := 1238) rfl, List.mem_of_getElem? (i := 1239) rfl⟩
set_option maxRecDepth 100000 in
theorem lw_p43 : lw_okq (⟨"LinearizabilityCheckerModel", "hasAll", "(I)Z"⟩, 44) := ⟨⟨by decide +kernel, by decide +kernel⟩, List.mem_of_getElem? (i := 900) rfl, List.mem_of_getElem? (i := 1242) rfl, List.mem_of_getElem? (i := 1243) rfl⟩
set_option maxRecDepth 100000 in
theorem lw_p44 : lw_okq (⟨"LinearizabilityCheckerModel", "isThere", "(I)Z"⟩, 44) := ⟨⟨by decide +kernel, by decide +kernel⟩, List.mem_of_getElem? (i := 900) rfl, List.mem_of_getElem? (i := 1246) rfl, List.mem_of_getElem? (i := 1247) rfl⟩
set_option maxRecDepth 100000 in
theorem lw_p45 : lw_okq (⟨"LinearizabilityCheckerModel", "isComplete", "(I)Z"⟩, 44) := ⟨⟨by decide +kernel, by decide +kernel⟩, List.mem_of_getElem? (i := 900) rfl, List.mem_of_getElem? (i := 1250) rfl, List.mem_of_getElem? (i := 1251) rfl⟩
set_option maxRecDepth 100000 in
theorem lw_p46 : lw_okq (⟨"LinearizabilityCheckerModel", "finds", "(III)V"⟩, 44) := ⟨⟨by decide +kernel, by decide +kernel⟩, List.mem_of_getElem? (i := 900) rfl, List.mem_of_getElem? (i := 1254) rfl, List.mem_of_getElem? (i := 1255) rfl⟩
set_option maxRecDepth 100000 in
theorem lw_p47 : lw_okq (⟨"LinearizabilityCheckerModel", "isReady", "(II)Z"⟩, 44) := ⟨⟨by decide +kernel, by decide +kernel⟩, List.mem_of_getElem? (i := 900) rfl, List.mem_of_getElem? (i := 1258) rfl, List.mem_of_getElem? (i := 1259) rfl⟩
def lw_privs_3 : List (MethodName × Nat) := [(⟨"LinearizabilityCheckerModel", "isCrashed", "(I)Z"⟩, 44), (⟨"LinearizabilityCheckerModel", "pendingOf", "(I)I"⟩, 44), (⟨"LinearizabilityCheckerModel", "append", "(III)I"⟩, 44), (⟨"LinearizabilityCheckerModel", "mayRespondWith", "(II)I"⟩, 44), (⟨"LinearizabilityCheckerModel", "mayRespond", "(I)I"⟩, 44), (⟨"LinearizabilityCheckerModel", "isOperation", "(I)Z"⟩, 44), (⟨"LinearizabilityCheckerModel", "isBefore", "(II)Z"⟩, 44), (⟨"LinearizabilityCheckerModel", "isLinear", "(I)Z"⟩, 44), (⟨"LinearizabilityCheckerModel", "searches", "(IIZZI)I"⟩, 44), (⟨"LinearizabilityCheckerModel", "start", "()V"⟩, 44), (⟨"LinearizabilityCheckerModel", "search", "(III)V"⟩, 44), (⟨"LinearizabilityCheckerModel", "hasAll", "(I)Z"⟩, 44), (⟨"LinearizabilityCheckerModel", "isThere", "(I)Z"⟩, 44), (⟨"LinearizabilityCheckerModel", "isComplete", "(I)Z"⟩, 44), (⟨"LinearizabilityCheckerModel", "finds", "(III)V"⟩, 44), (⟨"LinearizabilityCheckerModel", "isReady", "(II)Z"⟩, 44)]
theorem lw_r3 : ∀ q ∈ lw_privs_3, lw_okq q := List.forall_mem_cons.mpr ⟨lw_p32, List.forall_mem_cons.mpr ⟨lw_p33, List.forall_mem_cons.mpr ⟨lw_p34, List.forall_mem_cons.mpr ⟨lw_p35, List.forall_mem_cons.mpr ⟨lw_p36, List.forall_mem_cons.mpr ⟨lw_p37, List.forall_mem_cons.mpr ⟨lw_p38, List.forall_mem_cons.mpr ⟨lw_p39, List.forall_mem_cons.mpr ⟨lw_p40, List.forall_mem_cons.mpr ⟨lw_p41, List.forall_mem_cons.mpr ⟨lw_p42, List.forall_mem_cons.mpr ⟨lw_p43, List.forall_mem_cons.mpr ⟨lw_p44, List.forall_mem_cons.mpr ⟨lw_p45, List.forall_mem_cons.mpr ⟨lw_p46, List.forall_mem_cons.mpr ⟨lw_p47, fun _ h => absurd h List.not_mem_nil⟩⟩⟩⟩⟩⟩⟩⟩⟩⟩⟩⟩⟩⟩⟩⟩
set_option maxRecDepth 100000 in
theorem lw_p48 : lw_okq (⟨"LinearizabilityCheckerModel", "execute", "(I)I"⟩, 44) := ⟨⟨by decide +kernel, by decide +kernel⟩, List.mem_of_getElem? (i := 900) rfl, List.mem_of_getElem? (i := 1262) rfl, List.mem_of_getElem? (i := 1263) rfl⟩
set_option maxRecDepth 100000 in
theorem lw_p49 : lw_okq (⟨"LinearizabilityCheckerModel", "takeBack", "(III)V"⟩, 44) := ⟨⟨by decide +kernel, by decide +kernel⟩, List.mem_of_getElem? (i := 900) rfl, List.mem_of_getElem? (i := 1266) rfl, List.mem_of_getElem? (i := 1267) rfl⟩
set_option maxRecDepth 100000 in
theorem lw_p50 : lw_okq (⟨"LinearizabilityCheckerModel", "positionOf", "(I)I"⟩, 44) := ⟨⟨by decide +kernel, by decide +kernel⟩, List.mem_of_getElem? (i := 900) rfl, List.mem_of_getElem? (i := 1306) rfl, List.mem_of_getElem? (i := 1307) rfl⟩
set_option maxRecDepth 100000 in
theorem lw_p51 : lw_okq (⟨"LinearizabilityCheckerModel", "takesCommand", "()Z"⟩, 44) := ⟨⟨by decide +kernel, by decide +kernel⟩, List.mem_of_getElem? (i := 900) rfl, List.mem_of_getElem? (i := 1343) rfl, List.mem_of_getElem? (i := 1344) rfl⟩
set_option maxRecDepth 100000 in
theorem lw_p52 : lw_okq (⟨"LinearizabilityCheckerModel", "takesDigit", "(I)Z"⟩, 44) := ⟨⟨by decide +kernel, by decide +kernel⟩, List.mem_of_getElem? (i := 900) rfl, List.mem_of_getElem? (i := 1347) rfl, List.mem_of_getElem? (i := 1348) rfl⟩
set_option maxRecDepth 100000 in
theorem lw_p53 : lw_okq (⟨"LinearizabilityCheckerModel", "isAt", "(II)Z"⟩, 44) := ⟨⟨by decide +kernel, by decide +kernel⟩, List.mem_of_getElem? (i := 900) rfl, List.mem_of_getElem? (i := 1351) rfl, List.mem_of_getElem? (i := 1352) rfl⟩
set_option maxRecDepth 100000 in
theorem lw_p54 : lw_okq (⟨"LinearizabilityCheckerModel", "takes", "(I)Z"⟩, 44) := ⟨⟨by decide +kernel, by decide +kernel⟩, List.mem_of_getElem? (i := 900) rfl, List.mem_of_getElem? (i := 1355) rfl, List.mem_of_getElem? (i := 1356) rfl⟩
set_option maxRecDepth 100000 in
theorem lw_p55 : lw_okq (⟨"LinearizabilityCheckerModel", "takesNumber", "(I)Z"⟩, 44) := ⟨⟨by decide +kernel, by decide +kernel⟩, List.mem_of_getElem? (i := 900) rfl, List.mem_of_getElem? (i := 1359) rfl, List.mem_of_getElem? (i := 1360) rfl⟩
set_option maxRecDepth 100000 in
theorem lw_p56 : lw_okq (⟨"LinearizabilityCheckerModel", "takesInvocation", "()Z"⟩, 44) := ⟨⟨by decide +kernel, by decide +kernel⟩, List.mem_of_getElem? (i := 900) rfl, List.mem_of_getElem? (i := 1363) rfl, List.mem_of_getElem? (i := 1364) rfl⟩
set_option maxRecDepth 100000 in
theorem lw_p57 : lw_okq (⟨"LinearizabilityCheckerModel", "takesName", "()Z"⟩, 44) := ⟨⟨by decide +kernel, by decide +kernel⟩, List.mem_of_getElem? (i := 900) rfl, List.mem_of_getElem? (i := 1367) rfl, List.mem_of_getElem? (i := 1368) rfl⟩
set_option maxRecDepth 100000 in
theorem lw_p58 : lw_okq (⟨"LinearizabilityCheckerModel", "matched", "(II)I"⟩, 44) := ⟨⟨by decide +kernel, by decide +kernel⟩, List.mem_of_getElem? (i := 900) rfl, List.mem_of_getElem? (i := 1371) rfl, List.mem_of_getElem? (i := 1372) rfl⟩
set_option maxRecDepth 100000 in
theorem lw_p59 : lw_okq (⟨"LinearizabilityCheckerModel", "done", "()I"⟩, 44) := ⟨⟨by decide +kernel, by decide +kernel⟩, List.mem_of_getElem? (i := 900) rfl, List.mem_of_getElem? (i := 1378) rfl, List.mem_of_getElem? (i := 1379) rfl⟩
set_option maxRecDepth 100000 in
theorem lw_p60 : lw_okq (⟨"LinearizabilityCheckerModel", "copyAll", "(Z)V"⟩, 44) := ⟨⟨by decide +kernel, by decide +kernel⟩, List.mem_of_getElem? (i := 900) rfl, List.mem_of_getElem? (i := 1388) rfl, List.mem_of_getElem? (i := 1389) rfl⟩
set_option maxRecDepth 100000 in
theorem lw_p61 : lw_okq (⟨"LinearizabilityCheckerModel", "copy", "([IZ)V"⟩, 44) := ⟨⟨by decide +kernel, by decide +kernel⟩, List.mem_of_getElem? (i := 900) rfl, List.mem_of_getElem? (i := 1392) rfl, List.mem_of_getElem? (i := 1393) rfl⟩
def lw_privs_4 : List (MethodName × Nat) := [(⟨"LinearizabilityCheckerModel", "execute", "(I)I"⟩, 44), (⟨"LinearizabilityCheckerModel", "takeBack", "(III)V"⟩, 44), (⟨"LinearizabilityCheckerModel", "positionOf", "(I)I"⟩, 44), (⟨"LinearizabilityCheckerModel", "takesCommand", "()Z"⟩, 44), (⟨"LinearizabilityCheckerModel", "takesDigit", "(I)Z"⟩, 44), (⟨"LinearizabilityCheckerModel", "isAt", "(II)Z"⟩, 44), (⟨"LinearizabilityCheckerModel", "takes", "(I)Z"⟩, 44), (⟨"LinearizabilityCheckerModel", "takesNumber", "(I)Z"⟩, 44), (⟨"LinearizabilityCheckerModel", "takesInvocation", "()Z"⟩, 44), (⟨"LinearizabilityCheckerModel", "takesName", "()Z"⟩, 44), (⟨"LinearizabilityCheckerModel", "matched", "(II)I"⟩, 44), (⟨"LinearizabilityCheckerModel", "done", "()I"⟩, 44), (⟨"LinearizabilityCheckerModel", "copyAll", "(Z)V"⟩, 44), (⟨"LinearizabilityCheckerModel", "copy", "([IZ)V"⟩, 44)]
theorem lw_r4 : ∀ q ∈ lw_privs_4, lw_okq q := List.forall_mem_cons.mpr ⟨lw_p48, List.forall_mem_cons.mpr ⟨lw_p49, List.forall_mem_cons.mpr ⟨lw_p50, List.forall_mem_cons.mpr ⟨lw_p51, List.forall_mem_cons.mpr ⟨lw_p52, List.forall_mem_cons.mpr ⟨lw_p53, List.forall_mem_cons.mpr ⟨lw_p54, List.forall_mem_cons.mpr ⟨lw_p55, List.forall_mem_cons.mpr ⟨lw_p56, List.forall_mem_cons.mpr ⟨lw_p57, List.forall_mem_cons.mpr ⟨lw_p58, List.forall_mem_cons.mpr ⟨lw_p59, List.forall_mem_cons.mpr ⟨lw_p60, List.forall_mem_cons.mpr ⟨lw_p61, fun _ h => absurd h List.not_mem_nil⟩⟩⟩⟩⟩⟩⟩⟩⟩⟩⟩⟩⟩⟩
def lw_privs : List (MethodName × Nat) := lw_privs_1 ++ (lw_privs_2 ++ (lw_privs_3 ++ (lw_privs_4)))
def lw_tbl : List Cond := k2_sels lw_privs ++ tables_1
theorem lw_privs_ok : ∀ q ∈ lw_privs, lw_okq q := by
  show ∀ q ∈ lw_privs_1 ++ (lw_privs_2 ++ (lw_privs_3 ++ (lw_privs_4))), lw_okq q
  exact List.forall_mem_append.mpr ⟨lw_r1, List.forall_mem_append.mpr ⟨lw_r2, List.forall_mem_append.mpr ⟨lw_r3, lw_r4⟩⟩⟩
/-! ===== BEGIN words of one list among another's, by their places ===== -/
theorem goodIn_r {big : List Cond} (ws : List Cond) (ps : List Nat) (hp : ws = ps.filterMap (fun i => big[i]?)) (h : ws.all goodWord = true) : GoodIn big ws := by
  intro w hw
  have h1 := List.all_eq_true.mp h w hw
  rw [hp] at hw
  obtain ⟨i, -, hi⟩ := List.mem_filterMap.mp hw
  have hm : w ∈ big := by first | exact List.mem_of_getElem? hi | exact List.getElem?_mem hi
  exact ⟨hm, good_of_word h1⟩
theorem goodIn_app {big a b : List Cond} (ha : GoodIn big a) (hb : GoodIn big b) : GoodIn big (a ++ b) := fun w h => (List.mem_append.mp h).elim (ha w) (hb w)
theorem goodIn_ca {big a b : List Cond} {c : Cond} (ha : GoodIn big (c :: a)) (hb : GoodIn big b) : GoodIn big (c :: (a ++ b)) := fun w h => (List.mem_cons.mp h).elim (fun e => ha w (List.mem_cons.mpr (Or.inl e))) (fun h => (List.mem_append.mp h).elim (fun h => ha w (List.mem_cons.mpr (Or.inr h))) (hb w))
theorem goodIn_sub {big ws : List Cond} (hm : ∀ w ∈ ws, w ∈ big) (h : ws.all goodWord = true) : GoodIn big ws := fun w hw => ⟨hm w hw, good_of_word (List.all_eq_true.mp h w hw)⟩
/-! ===== END ===== -/

/-! ===== BEGIN printed: names, fields, word lists, decode rows ===== -/
def RX0 : String := "LinearizabilityChecker$History"
def TX0 : u_T := fun k => match k with
  | 0 => ("LinearizabilityChecker$History", "events", "I", false)
  | 1 => ("LinearizabilityChecker$History", "eventForms", "[I", true)
  | 2 => ("LinearizabilityChecker$History", "eventThreads", "[I", true)
  | 3 => ("LinearizabilityChecker$History", "eventOperations", "[I", true)
  | 4 => ("LinearizabilityChecker$History", "operations", "I", false)
  | 5 => ("LinearizabilityChecker$History", "kinds", "[I", true)
  | 6 => ("LinearizabilityChecker$History", "threads", "[I", true)
  | 7 => ("LinearizabilityChecker$History", "objects", "[I", true)
  | 8 => ("LinearizabilityChecker$History", "firstArguments", "[I", true)
  | 9 => ("LinearizabilityChecker$History", "secondArguments", "[I", true)
  | 10 => ("LinearizabilityChecker$History", "invokedAt", "[I", true)
  | 11 => ("LinearizabilityChecker$History", "respondedAt", "[I", true)
  | 12 => ("LinearizabilityChecker$History", "results", "[I", true)
  | 13 => ("LinearizabilityChecker$History", "pendingOperation", "[I", true)
  | 14 => ("LinearizabilityChecker$History", "crashed", "[Z", true)
  | _ => ("LinearizabilityChecker$History", "chains", "[I", true)
def tyX0 : Nat → FieldType := fun k => match k with
  | 0 => .int
  | 1 => .array .int
  | 2 => .array .int
  | 3 => .array .int
  | 4 => .int
  | 5 => .array .int
  | 6 => .array .int
  | 7 => .array .int
  | 8 => .array .int
  | 9 => .array .int
  | 10 => .array .int
  | 11 => .array .int
  | 12 => .array .int
  | 13 => .array .int
  | 14 => .array .boolean
  | _ => .array .int
abbrev wsX00 : List Cond := u_ws RX0 TX0 16
theorem nmX0 : ∀ a, a < 16 → ∀ b, b < 16 → a ≠ b → (TX0 a).2.1 ≠ (TX0 b).2.1 := by decide +kernel
theorem tyX0_ok : ∀ k, k < 16 → parseFieldDescriptor (TX0 k).2.2.1 = some (tyX0 k) := by decide +kernel
abbrev cX0_init : ByteArray := prog_2_method_1_code
def yX0_init : MethodName := ⟨RX0, "<init>", "()V"⟩
abbrev cX0_clearHistory : ByteArray := prog_2_method_2_code
def yX0_clearHistory : MethodName := ⟨RX0, "clearHistory", "()V"⟩
abbrev cX0_has : ByteArray := prog_2_method_3_code
def yX0_has : MethodName := ⟨RX0, "has", "(I)Z"⟩
abbrev cX0_isPending : ByteArray := prog_2_method_4_code
def yX0_isPending : MethodName := ⟨RX0, "isPending", "(I)Z"⟩
abbrev cX0_isBefore : ByteArray := prog_2_method_5_code
def yX0_isBefore : MethodName := ⟨RX0, "isBefore", "(II)Z"⟩
abbrev cX0_endsWithResponse : ByteArray := prog_2_method_6_code
def yX0_endsWithResponse : MethodName := ⟨RX0, "endsWithResponse", "(I)Z"⟩
abbrev cX0_addInvocation : ByteArray := prog_2_method_7_code
def yX0_addInvocation : MethodName := ⟨RX0, "addInvocation", "(IIIII)V"⟩
abbrev cX0_addResponse : ByteArray := prog_2_method_8_code
def yX0_addResponse : MethodName := ⟨RX0, "addResponse", "(II)V"⟩
abbrev cX0_addCrash : ByteArray := prog_2_method_9_code
def yX0_addCrash : MethodName := ⟨RX0, "addCrash", "(I)V"⟩
abbrev cX0_addEvent : ByteArray := prog_2_method_10_code
def yX0_addEvent : MethodName := ⟨RX0, "addEvent", "(III)V"⟩
abbrev cX0_removeLastEvent : ByteArray := prog_2_method_11_code
def yX0_removeLastEvent : MethodName := ⟨RX0, "removeLastEvent", "()V"⟩
abbrev cX0_mostPending : ByteArray := prog_2_method_12_code
def yX0_mostPending : MethodName := ⟨RX0, "mostPending", "()I"⟩
abbrev cX0_chainLength : ByteArray := prog_2_method_13_code
def yX0_chainLength : MethodName := ⟨RX0, "chainLength", "()I"⟩
abbrev cX0_copyHistory : ByteArray := prog_2_method_14_code
def yX0_copyHistory : MethodName := ⟨RX0, "copyHistory", "(LLinearizabilityChecker$History;)V"⟩
def RX1 : String := "LinearizabilityChecker$ObjectTable"
def TX1 : u_T := fun k => match k with
  | 0 => ("LinearizabilityChecker$ObjectTable", "count", "I", false)
  | 1 => ("LinearizabilityChecker$ObjectTable", "types", "[I", true)
  | _ => ("LinearizabilityChecker$ObjectTable", "initials", "[I", true)
def tyX1 : Nat → FieldType := fun k => match k with
  | 0 => .int
  | 1 => .array .int
  | _ => .array .int
abbrev wsX10 : List Cond := u_ws RX1 TX1 3
theorem nmX1 : ∀ a, a < 3 → ∀ b, b < 3 → a ≠ b → (TX1 a).2.1 ≠ (TX1 b).2.1 := by decide +kernel
theorem tyX1_ok : ∀ k, k < 3 → parseFieldDescriptor (TX1 k).2.2.1 = some (tyX1 k) := by decide +kernel
abbrev cX1_init : ByteArray := prog_3_method_1_code
def yX1_init : MethodName := ⟨RX1, "<init>", "()V"⟩
abbrev cX1_has : ByteArray := prog_3_method_2_code
def yX1_has : MethodName := ⟨RX1, "has", "(I)Z"⟩
abbrev cX1_append : ByteArray := prog_3_method_3_code
def yX1_append : MethodName := ⟨RX1, "append", "(II)V"⟩
abbrev cX1_copyObjects : ByteArray := prog_3_method_4_code
def yX1_copyObjects : MethodName := ⟨RX1, "copyObjects", "(LLinearizabilityChecker$ObjectTable;)V"⟩
def RX2 : String := "LinearizabilityChecker$OrderBuffer"
def TX2 : u_T := fun k => match k with
  | 0 => ("LinearizabilityChecker$OrderBuffer", "size", "I", false)
  | _ => ("LinearizabilityChecker$OrderBuffer", "operations", "[I", true)
def tyX2 : Nat → FieldType := fun k => match k with
  | 0 => .int
  | _ => .array .int
abbrev wsX20 : List Cond := u_ws RX2 TX2 2
theorem nmX2 : ∀ a, a < 2 → ∀ b, b < 2 → a ≠ b → (TX2 a).2.1 ≠ (TX2 b).2.1 := by decide +kernel
theorem tyX2_ok : ∀ k, k < 2 → parseFieldDescriptor (TX2 k).2.2.1 = some (tyX2 k) := by decide +kernel
abbrev cX2_init : ByteArray := prog_4_method_1_code
def yX2_init : MethodName := ⟨RX2, "<init>", "()V"⟩
abbrev cX2_empty : ByteArray := prog_4_method_2_code
def yX2_empty : MethodName := ⟨RX2, "empty", "()V"⟩
abbrev cX2_positionOf : ByteArray := prog_4_method_3_code
def yX2_positionOf : MethodName := ⟨RX2, "positionOf", "(I)I"⟩
abbrev cX2_append : ByteArray := prog_4_method_4_code
def yX2_append : MethodName := ⟨RX2, "append", "(I)V"⟩
abbrev cX2_removeAt : ByteArray := prog_4_method_5_code
def yX2_removeAt : MethodName := ⟨RX2, "removeAt", "(I)V"⟩
abbrev cX2_copyOrder : ByteArray := prog_4_method_6_code
def yX2_copyOrder : MethodName := ⟨RX2, "copyOrder", "(LLinearizabilityChecker$OrderBuffer;)V"⟩
def RX3 : String := "LinearizabilityChecker$Parser"
def TX3 : u_T := fun k => match k with
  | 0 => ("LinearizabilityChecker$Parser", "commands", "I", false)
  | 1 => ("LinearizabilityChecker$Parser", "forms", "[I", true)
  | 2 => ("LinearizabilityChecker$Parser", "threads", "[I", true)
  | 3 => ("LinearizabilityChecker$Parser", "objects", "[I", true)
  | 4 => ("LinearizabilityChecker$Parser", "kinds", "[I", true)
  | 5 => ("LinearizabilityChecker$Parser", "firstNumbers", "[I", true)
  | 6 => ("LinearizabilityChecker$Parser", "secondNumbers", "[I", true)
  | 7 => ("LinearizabilityChecker$Parser", "text", "LLinearizabilityChecker$TextBuffer;", true)
  | 8 => ("LinearizabilityChecker$Parser", "position", "I", false)
  | _ => ("LinearizabilityChecker$Parser", "failed", "Z", false)
def tyX3 : Nat → FieldType := fun k => match k with
  | 0 => .int
  | 1 => .array .int
  | 2 => .array .int
  | 3 => .array .int
  | 4 => .array .int
  | 5 => .array .int
  | 6 => .array .int
  | 7 => .object "LinearizabilityChecker$TextBuffer"
  | 8 => .int
  | _ => .boolean
abbrev wsX30 : List Cond := u_ws RX3 TX3 10
theorem nmX3 : ∀ a, a < 10 → ∀ b, b < 10 → a ≠ b → (TX3 a).2.1 ≠ (TX3 b).2.1 := by decide +kernel
theorem tyX3_ok : ∀ k, k < 10 → parseFieldDescriptor (TX3 k).2.2.1 = some (tyX3 k) := by decide +kernel
abbrev cX3_init : ByteArray := prog_5_method_1_code
def yX3_init : MethodName := ⟨RX3, "<init>", "(LLinearizabilityChecker$TextBuffer;)V"⟩
abbrev cX3_readsAll : ByteArray := prog_5_method_2_code
def yX3_readsAll : MethodName := ⟨RX3, "readsAll", "()Z"⟩
abbrev cX3_takeCommand : ByteArray := prog_5_method_3_code
def yX3_takeCommand : MethodName := ⟨RX3, "takeCommand", "()V"⟩
abbrev cX3_takeInvocation : ByteArray := prog_5_method_4_code
def yX3_takeInvocation : MethodName := ⟨RX3, "takeInvocation", "(I)V"⟩
abbrev cX3_takeName : ByteArray := prog_5_method_5_code
def yX3_takeName : MethodName := ⟨RX3, "takeName", "()I"⟩
abbrev cX3_agreeingCharacters : ByteArray := prog_5_method_6_code
def yX3_agreeingCharacters : MethodName := ⟨RX3, "agreeingCharacters", "(Ljava/lang/String;)I"⟩
abbrev cX3_takeNumber : ByteArray := prog_5_method_7_code
def yX3_takeNumber : MethodName := ⟨RX3, "takeNumber", "()I"⟩
abbrev cX3_takeDigit : ByteArray := prog_5_method_8_code
def yX3_takeDigit : MethodName := ⟨RX3, "takeDigit", "()I"⟩
abbrev cX3_take : ByteArray := prog_5_method_9_code
def yX3_take : MethodName := ⟨RX3, "take", "(C)V"⟩
abbrev cX3_isNext : ByteArray := prog_5_method_10_code
def yX3_isNext : MethodName := ⟨RX3, "isNext", "(C)Z"⟩
abbrev cX3_isAt : ByteArray := prog_5_method_11_code
def yX3_isAt : MethodName := ⟨RX3, "isAt", "(IC)Z"⟩
abbrev cX3_isNextDigit : ByteArray := prog_5_method_12_code
def yX3_isNextDigit : MethodName := ⟨RX3, "isNextDigit", "()Z"⟩
def RX4 : String := "LinearizabilityChecker$Recording"
def TX4 : u_T := fun k => match k with
  | 0 => ("LinearizabilityChecker$Recording", "objects", "LLinearizabilityChecker$ObjectTable;", true)
  | 1 => ("LinearizabilityChecker$Recording", "history", "LLinearizabilityChecker$History;", true)
  | _ => ("LinearizabilityChecker$Recording", "order", "LLinearizabilityChecker$OrderBuffer;", true)
def tyX4 : Nat → FieldType := fun k => match k with
  | 0 => .object "LinearizabilityChecker$ObjectTable"
  | 1 => .object "LinearizabilityChecker$History"
  | _ => .object "LinearizabilityChecker$OrderBuffer"
abbrev wsX40 : List Cond := u_ws RX4 TX4 3
theorem nmX4 : ∀ a, a < 3 → ∀ b, b < 3 → a ≠ b → (TX4 a).2.1 ≠ (TX4 b).2.1 := by decide +kernel
theorem tyX4_ok : ∀ k, k < 3 → parseFieldDescriptor (TX4 k).2.2.1 = some (tyX4 k) := by decide +kernel
abbrev cX4_init : ByteArray := prog_6_method_1_code
def yX4_init : MethodName := ⟨RX4, "<init>", "()V"⟩
abbrev cX4_clearAll : ByteArray := prog_6_method_2_code
def yX4_clearAll : MethodName := ⟨RX4, "clearAll", "()V"⟩
abbrev cX4_copyFrom : ByteArray := prog_6_method_3_code
def yX4_copyFrom : MethodName := ⟨RX4, "copyFrom", "(LLinearizabilityChecker$Recording;)V"⟩
def RX5 : String := "LinearizabilityChecker$Search"
def TX5 : u_T := fun k => match k with
  | 0 => ("LinearizabilityChecker$Search", "objects", "LLinearizabilityChecker$ObjectTable;", true)
  | 1 => ("LinearizabilityChecker$Search", "history", "LLinearizabilityChecker$History;", true)
  | 2 => ("LinearizabilityChecker$Search", "states", "[LLinearizabilityChecker$SharedState;", true)
  | 3 => ("LinearizabilityChecker$Search", "allowed", "I", false)
  | 4 => ("LinearizabilityChecker$Search", "required", "I", false)
  | 5 => ("LinearizabilityChecker$Search", "compared", "I", false)
  | 6 => ("LinearizabilityChecker$Search", "expected", "[I", true)
  | 7 => ("LinearizabilityChecker$Search", "before", "[I", true)
  | 8 => ("LinearizabilityChecker$Search", "sequence", "[I", true)
  | 9 => ("LinearizabilityChecker$Search", "foundLength", "I", false)
  | 10 => ("LinearizabilityChecker$Search", "found", "I", false)
  | 11 => ("LinearizabilityChecker$Search", "onlyFirst", "Z", false)
  | 12 => ("LinearizabilityChecker$Search", "watched", "I", false)
  | 13 => ("LinearizabilityChecker$Search", "watchedResult", "I", false)
  | _ => ("LinearizabilityChecker$Search", "reached", "[Z", true)
def tyX5 : Nat → FieldType := fun k => match k with
  | 0 => .object "LinearizabilityChecker$ObjectTable"
  | 1 => .object "LinearizabilityChecker$History"
  | 2 => .array (.object "LinearizabilityChecker$SharedState")
  | 3 => .int
  | 4 => .int
  | 5 => .int
  | 6 => .array .int
  | 7 => .array .int
  | 8 => .array .int
  | 9 => .int
  | 10 => .int
  | 11 => .boolean
  | 12 => .int
  | 13 => .int
  | _ => .array .boolean
abbrev wsX50 : List Cond := u_ws RX5 TX5 15
theorem nmX5 : ∀ a, a < 15 → ∀ b, b < 15 → a ≠ b → (TX5 a).2.1 ≠ (TX5 b).2.1 := by decide +kernel
theorem tyX5_ok : ∀ k, k < 15 → parseFieldDescriptor (TX5 k).2.2.1 = some (tyX5 k) := by decide +kernel
abbrev cX5_init : ByteArray := prog_7_method_1_code
def yX5_init : MethodName := ⟨RX5, "<init>", "(LLinearizabilityChecker$Recording;)V"⟩
abbrev cX5_prepare : ByteArray := prog_7_method_2_code
def yX5_prepare : MethodName := ⟨RX5, "prepare", "(II)V"⟩
abbrev cX5_keepRealTimeOrder : ByteArray := prog_7_method_3_code
def yX5_keepRealTimeOrder : MethodName := ⟨RX5, "keepRealTimeOrder", "()V"⟩
abbrev cX5_keepThreadOrder : ByteArray := prog_7_method_4_code
def yX5_keepThreadOrder : MethodName := ⟨RX5, "keepThreadOrder", "()V"⟩
abbrev cX5_requireResult : ByteArray := prog_7_method_5_code
def yX5_requireResult : MethodName := ⟨RX5, "requireResult", "(II)V"⟩
abbrev cX5_findsOne : ByteArray := prog_7_method_6_code
def yX5_findsOne : MethodName := ⟨RX5, "findsOne", "()Z"⟩
abbrev cX5_countAll : ByteArray := prog_7_method_7_code
def yX5_countAll : MethodName := ⟨RX5, "countAll", "()I"⟩
abbrev cX5_countResults : ByteArray := prog_7_method_8_code
def yX5_countResults : MethodName := ⟨RX5, "countResults", "(III)I"⟩
abbrev cX5_coversRequired : ByteArray := prog_7_method_9_code
def yX5_coversRequired : MethodName := ⟨RX5, "coversRequired", "(LLinearizabilityChecker$OrderBuffer;)Z"⟩
abbrev cX5_badPosition : ByteArray := prog_7_method_10_code
def yX5_badPosition : MethodName := ⟨RX5, "badPosition", "(LLinearizabilityChecker$OrderBuffer;)I"⟩
abbrev cX5_resultOfNext : ByteArray := prog_7_method_11_code
def yX5_resultOfNext : MethodName := ⟨RX5, "resultOfNext", "(I)I"⟩
abbrev cX5_extend : ByteArray := prog_7_method_12_code
def yX5_extend : MethodName := ⟨RX5, "extend", "(LLinearizabilityChecker$Search;II)V"⟩
abbrev cX5_tryNext : ByteArray := prog_7_method_13_code
def yX5_tryNext : MethodName := ⟨RX5, "tryNext", "(III)V"⟩
abbrev cX5_noteFound : ByteArray := prog_7_method_14_code
def yX5_noteFound : MethodName := ⟨RX5, "noteFound", "(I)V"⟩
abbrev cX5_isOver : ByteArray := prog_7_method_15_code
def yX5_isOver : MethodName := ⟨RX5, "isOver", "()Z"⟩
abbrev cX5_mayFollow : ByteArray := prog_7_method_16_code
def yX5_mayFollow : MethodName := ⟨RX5, "mayFollow", "(II)Z"⟩
abbrev cX5_agrees : ByteArray := prog_7_method_17_code
def yX5_agrees : MethodName := ⟨RX5, "agrees", "(II)Z"⟩
def RX6 : String := "LinearizabilityChecker$SharedState"
def TX6 : u_T := fun k => match k with
  | 0 => ("LinearizabilityChecker$SharedState", "value", "I", false)
  | 1 => ("LinearizabilityChecker$SharedState", "slots", "[I", true)
  | 2 => ("LinearizabilityChecker$SharedState", "head", "I", false)
  | 3 => ("LinearizabilityChecker$SharedState", "tail", "I", false)
  | _ => ("LinearizabilityChecker$SharedState", "elements", "[Z", true)
def tyX6 : Nat → FieldType := fun k => match k with
  | 0 => .int
  | 1 => .array .int
  | 2 => .int
  | 3 => .int
  | _ => .array .boolean
abbrev wsX60 : List Cond := u_ws RX6 TX6 5
theorem nmX6 : ∀ a, a < 5 → ∀ b, b < 5 → a ≠ b → (TX6 a).2.1 ≠ (TX6 b).2.1 := by decide +kernel
theorem tyX6_ok : ∀ k, k < 5 → parseFieldDescriptor (TX6 k).2.2.1 = some (tyX6 k) := by decide +kernel
abbrev cX6_init : ByteArray := prog_8_method_1_code
def yX6_init : MethodName := ⟨RX6, "<init>", "()V"⟩
abbrev cX6_start : ByteArray := prog_8_method_2_code
def yX6_start : MethodName := ⟨RX6, "start", "(I)V"⟩
abbrev cX6_perform : ByteArray := prog_8_method_3_code
def yX6_perform : MethodName := ⟨RX6, "perform", "(III)I"⟩
abbrev cX6_takeBack : ByteArray := prog_8_method_4_code
def yX6_takeBack : MethodName := ⟨RX6, "takeBack", "(IIII)V"⟩
abbrev cX6_compareAndSet : ByteArray := prog_8_method_5_code
def yX6_compareAndSet : MethodName := ⟨RX6, "compareAndSet", "(II)I"⟩
abbrev cX6_enqueue : ByteArray := prog_8_method_6_code
def yX6_enqueue : MethodName := ⟨RX6, "enqueue", "(I)I"⟩
abbrev cX6_dequeue : ByteArray := prog_8_method_7_code
def yX6_dequeue : MethodName := ⟨RX6, "dequeue", "()I"⟩
abbrev cX6_changesElement : ByteArray := prog_8_method_8_code
def yX6_changesElement : MethodName := ⟨RX6, "changesElement", "(IZ)Z"⟩
def RX7 : String := "LinearizabilityChecker$TextBuffer"
def TX7 : u_T := fun k => match k with
  | 0 => ("LinearizabilityChecker$TextBuffer", "length", "I", false)
  | _ => ("LinearizabilityChecker$TextBuffer", "characters", "[C", true)
def tyX7 : Nat → FieldType := fun k => match k with
  | 0 => .int
  | _ => .array .char
abbrev wsX70 : List Cond := u_ws RX7 TX7 2
theorem nmX7 : ∀ a, a < 2 → ∀ b, b < 2 → a ≠ b → (TX7 a).2.1 ≠ (TX7 b).2.1 := by decide +kernel
theorem tyX7_ok : ∀ k, k < 2 → parseFieldDescriptor (TX7 k).2.2.1 = some (tyX7 k) := by decide +kernel
abbrev cX7_init : ByteArray := prog_9_method_1_code
def yX7_init : MethodName := ⟨RX7, "<init>", "()V"⟩
abbrev cX7_empty : ByteArray := prog_9_method_2_code
def yX7_empty : MethodName := ⟨RX7, "empty", "()V"⟩
abbrev cX7_append : ByteArray := prog_9_method_3_code
def yX7_append : MethodName := ⟨RX7, "append", "(C)V"⟩
def RX8 : String := "LinearizabilityChecker"
def TX8 : u_T := fun k => match k with
  | 0 => ("LinearizabilityChecker", "current", "LLinearizabilityChecker$Recording;", true)
  | 1 => ("LinearizabilityChecker", "saved", "LLinearizabilityChecker$Recording;", true)
  | 2 => ("LinearizabilityChecker", "search", "LLinearizabilityChecker$Search;", true)
  | 3 => ("LinearizabilityChecker", "text", "LLinearizabilityChecker$TextBuffer;", true)
  | 4 => ("LinearizabilityChecker", "parser", "LLinearizabilityChecker$Parser;", true)
  | _ => ("LinearizabilityChecker", "hasSnapshot", "Z", false)
def tyX8 : Nat → FieldType := fun k => match k with
  | 0 => .object "LinearizabilityChecker$Recording"
  | 1 => .object "LinearizabilityChecker$Recording"
  | 2 => .object "LinearizabilityChecker$Search"
  | 3 => .object "LinearizabilityChecker$TextBuffer"
  | 4 => .object "LinearizabilityChecker$Parser"
  | _ => .boolean
abbrev wsX80 : List Cond := u_ws RX8 TX8 6
theorem nmX8 : ∀ a, a < 6 → ∀ b, b < 6 → a ≠ b → (TX8 a).2.1 ≠ (TX8 b).2.1 := by decide +kernel
theorem tyX8_ok : ∀ k, k < 6 → parseFieldDescriptor (TX8 k).2.2.1 = some (tyX8 k) := by decide +kernel
abbrev cX8_init : ByteArray := prog_1_method_1_code
def yX8_init : MethodName := ⟨RX8, "<init>", "()V"⟩
abbrev cX8_createRegister : ByteArray := prog_1_method_2_code
def yX8_createRegister : MethodName := ⟨RX8, "createRegister", "(I)I"⟩
abbrev cX8_createCounter : ByteArray := prog_1_method_3_code
def yX8_createCounter : MethodName := ⟨RX8, "createCounter", "(I)I"⟩
abbrev cX8_createQueue : ByteArray := prog_1_method_4_code
def yX8_createQueue : MethodName := ⟨RX8, "createQueue", "()I"⟩
abbrev cX8_createSet : ByteArray := prog_1_method_5_code
def yX8_createSet : MethodName := ⟨RX8, "createSet", "()I"⟩
abbrev cX8_objectCount : ByteArray := prog_1_method_6_code
def yX8_objectCount : MethodName := ⟨RX8, "objectCount", "()I"⟩
abbrev cX8_typeOf : ByteArray := prog_1_method_7_code
def yX8_typeOf : MethodName := ⟨RX8, "typeOf", "(I)I"⟩
abbrev cX8_reset : ByteArray := prog_1_method_8_code
def yX8_reset : MethodName := ⟨RX8, "reset", "()I"⟩
abbrev cX8_invokeRead : ByteArray := prog_1_method_9_code
def yX8_invokeRead : MethodName := ⟨RX8, "invokeRead", "(II)I"⟩
abbrev cX8_invokeWrite : ByteArray := prog_1_method_10_code
def yX8_invokeWrite : MethodName := ⟨RX8, "invokeWrite", "(III)I"⟩
abbrev cX8_invokeCompareAndSet : ByteArray := prog_1_method_11_code
def yX8_invokeCompareAndSet : MethodName := ⟨RX8, "invokeCompareAndSet", "(IIII)I"⟩
abbrev cX8_invokeGet : ByteArray := prog_1_method_12_code
def yX8_invokeGet : MethodName := ⟨RX8, "invokeGet", "(II)I"⟩
abbrev cX8_invokeAdd : ByteArray := prog_1_method_13_code
def yX8_invokeAdd : MethodName := ⟨RX8, "invokeAdd", "(III)I"⟩
abbrev cX8_invokeEnqueue : ByteArray := prog_1_method_14_code
def yX8_invokeEnqueue : MethodName := ⟨RX8, "invokeEnqueue", "(III)I"⟩
abbrev cX8_invokeDequeue : ByteArray := prog_1_method_15_code
def yX8_invokeDequeue : MethodName := ⟨RX8, "invokeDequeue", "(II)I"⟩
abbrev cX8_invokeInsert : ByteArray := prog_1_method_16_code
def yX8_invokeInsert : MethodName := ⟨RX8, "invokeInsert", "(III)I"⟩
abbrev cX8_invokeRemove : ByteArray := prog_1_method_17_code
def yX8_invokeRemove : MethodName := ⟨RX8, "invokeRemove", "(III)I"⟩
abbrev cX8_invokeContains : ByteArray := prog_1_method_18_code
def yX8_invokeContains : MethodName := ⟨RX8, "invokeContains", "(III)I"⟩
abbrev cX8_respond : ByteArray := prog_1_method_19_code
def yX8_respond : MethodName := ⟨RX8, "respond", "(II)I"⟩
abbrev cX8_crash : ByteArray := prog_1_method_20_code
def yX8_crash : MethodName := ⟨RX8, "crash", "(I)I"⟩
abbrev cX8_undo : ByteArray := prog_1_method_21_code
def yX8_undo : MethodName := ⟨RX8, "undo", "()I"⟩
abbrev cX8_eventCount : ByteArray := prog_1_method_22_code
def yX8_eventCount : MethodName := ⟨RX8, "eventCount", "()I"⟩
abbrev cX8_operationCount : ByteArray := prog_1_method_23_code
def yX8_operationCount : MethodName := ⟨RX8, "operationCount", "()I"⟩
abbrev cX8_kindOf : ByteArray := prog_1_method_24_code
def yX8_kindOf : MethodName := ⟨RX8, "kindOf", "(I)I"⟩
abbrev cX8_threadOf : ByteArray := prog_1_method_25_code
def yX8_threadOf : MethodName := ⟨RX8, "threadOf", "(I)I"⟩
abbrev cX8_objectOf : ByteArray := prog_1_method_26_code
def yX8_objectOf : MethodName := ⟨RX8, "objectOf", "(I)I"⟩
abbrev cX8_invocationTime : ByteArray := prog_1_method_27_code
def yX8_invocationTime : MethodName := ⟨RX8, "invocationTime", "(I)I"⟩
abbrev cX8_responseTime : ByteArray := prog_1_method_28_code
def yX8_responseTime : MethodName := ⟨RX8, "responseTime", "(I)I"⟩
abbrev cX8_resultOf : ByteArray := prog_1_method_29_code
def yX8_resultOf : MethodName := ⟨RX8, "resultOf", "(I)I"⟩
abbrev cX8_precedes : ByteArray := prog_1_method_30_code
def yX8_precedes : MethodName := ⟨RX8, "precedes", "(II)I"⟩
abbrev cX8_maxPending : ByteArray := prog_1_method_31_code
def yX8_maxPending : MethodName := ⟨RX8, "maxPending", "()I"⟩
abbrev cX8_longestChain : ByteArray := prog_1_method_32_code
def yX8_longestChain : MethodName := ⟨RX8, "longestChain", "()I"⟩
abbrev cX8_isLinearizable : ByteArray := prog_1_method_33_code
def yX8_isLinearizable : MethodName := ⟨RX8, "isLinearizable", "()I"⟩
abbrev cX8_isObjectLinearizable : ByteArray := prog_1_method_34_code
def yX8_isObjectLinearizable : MethodName := ⟨RX8, "isObjectLinearizable", "(I)I"⟩
abbrev cX8_isSequentiallyConsistent : ByteArray := prog_1_method_35_code
def yX8_isSequentiallyConsistent : MethodName := ⟨RX8, "isSequentiallyConsistent", "()I"⟩
abbrev cX8_countLinearizations : ByteArray := prog_1_method_36_code
def yX8_countLinearizations : MethodName := ⟨RX8, "countLinearizations", "()I"⟩
abbrev cX8_firstLinearizationLength : ByteArray := prog_1_method_37_code
def yX8_firstLinearizationLength : MethodName := ⟨RX8, "firstLinearizationLength", "()I"⟩
abbrev cX8_firstLinearizationAt : ByteArray := prog_1_method_38_code
def yX8_firstLinearizationAt : MethodName := ⟨RX8, "firstLinearizationAt", "(I)I"⟩
abbrev cX8_firstViolation : ByteArray := prog_1_method_39_code
def yX8_firstViolation : MethodName := ⟨RX8, "firstViolation", "()I"⟩
abbrev cX8_canRespond : ByteArray := prog_1_method_40_code
def yX8_canRespond : MethodName := ⟨RX8, "canRespond", "(II)I"⟩
abbrev cX8_countResponses : ByteArray := prog_1_method_41_code
def yX8_countResponses : MethodName := ⟨RX8, "countResponses", "(I)I"⟩
abbrev cX8_appendToOrder : ByteArray := prog_1_method_42_code
def yX8_appendToOrder : MethodName := ⟨RX8, "appendToOrder", "(I)I"⟩
abbrev cX8_removeFromOrder : ByteArray := prog_1_method_43_code
def yX8_removeFromOrder : MethodName := ⟨RX8, "removeFromOrder", "(I)I"⟩
abbrev cX8_orderSize : ByteArray := prog_1_method_44_code
def yX8_orderSize : MethodName := ⟨RX8, "orderSize", "()I"⟩
abbrev cX8_orderAt : ByteArray := prog_1_method_45_code
def yX8_orderAt : MethodName := ⟨RX8, "orderAt", "(I)I"⟩
abbrev cX8_isOrderLinearization : ByteArray := prog_1_method_46_code
def yX8_isOrderLinearization : MethodName := ⟨RX8, "isOrderLinearization", "()I"⟩
abbrev cX8_firstBadPosition : ByteArray := prog_1_method_47_code
def yX8_firstBadPosition : MethodName := ⟨RX8, "firstBadPosition", "()I"⟩
abbrev cX8_appendCharacter : ByteArray := prog_1_method_48_code
def yX8_appendCharacter : MethodName := ⟨RX8, "appendCharacter", "(I)I"⟩
abbrev cX8_clearText : ByteArray := prog_1_method_49_code
def yX8_clearText : MethodName := ⟨RX8, "clearText", "()I"⟩
abbrev cX8_parseText : ByteArray := prog_1_method_50_code
def yX8_parseText : MethodName := ⟨RX8, "parseText", "()I"⟩
abbrev cX8_saveSnapshot : ByteArray := prog_1_method_51_code
def yX8_saveSnapshot : MethodName := ⟨RX8, "saveSnapshot", "()I"⟩
abbrev cX8_restoreSnapshot : ByteArray := prog_1_method_52_code
def yX8_restoreSnapshot : MethodName := ⟨RX8, "restoreSnapshot", "()I"⟩
abbrev cX8_createObject : ByteArray := prog_1_method_53_code
def yX8_createObject : MethodName := ⟨RX8, "createObject", "(II)I"⟩
abbrev cX8_invoke : ByteArray := prog_1_method_54_code
def yX8_invoke : MethodName := ⟨RX8, "invoke", "(IIIII)I"⟩
abbrev cX8_invocationError : ByteArray := prog_1_method_55_code
def yX8_invocationError : MethodName := ⟨RX8, "invocationError", "(IIIII)I"⟩
abbrev cX8_responseError : ByteArray := prog_1_method_56_code
def yX8_responseError : MethodName := ⟨RX8, "responseError", "(II)I"⟩
abbrev cX8_waitingError : ByteArray := prog_1_method_57_code
def yX8_waitingError : MethodName := ⟨RX8, "waitingError", "(I)I"⟩
abbrev cX8_prepareWholeHistory : ByteArray := prog_1_method_58_code
def yX8_prepareWholeHistory : MethodName := ⟨RX8, "prepareWholeHistory", "()V"⟩
abbrev cX8_isPrefixLinearizable : ByteArray := prog_1_method_59_code
def yX8_isPrefixLinearizable : MethodName := ⟨RX8, "isPrefixLinearizable", "(I)Z"⟩
abbrev cX8_execute : ByteArray := prog_1_method_60_code
def yX8_execute : MethodName := ⟨RX8, "execute", "(I)I"⟩
abbrev cX8_isBetween : ByteArray := prog_1_method_61_code
def yX8_isBetween : MethodName := ⟨RX8, "isBetween", "(III)Z"⟩
abbrev cX8_isThread : ByteArray := prog_1_method_62_code
def yX8_isThread : MethodName := ⟨RX8, "isThread", "(I)Z"⟩
abbrev cX8_truth : ByteArray := prog_1_method_63_code
def yX8_truth : MethodName := ⟨RX8, "truth", "(Z)I"⟩
abbrev cX8_requiredType : ByteArray := prog_1_method_64_code
def yX8_requiredType : MethodName := ⟨RX8, "requiredType", "(I)I"⟩
abbrev cX8_lowestResult : ByteArray := prog_1_method_65_code
def yX8_lowestResult : MethodName := ⟨RX8, "lowestResult", "(I)I"⟩
abbrev cX8_highestResult : ByteArray := prog_1_method_66_code
def yX8_highestResult : MethodName := ⟨RX8, "highestResult", "(I)I"⟩
abbrev cX8_argumentCount : ByteArray := prog_1_method_67_code
def yX8_argumentCount : MethodName := ⟨RX8, "argumentCount", "(I)I"⟩
abbrev cX8_nameOf : ByteArray := prog_1_method_68_code
def yX8_nameOf : MethodName := ⟨RX8, "nameOf", "(I)Ljava/lang/String;"⟩
def RX9 : String := "LinearizabilityCheckerModel"
def TX9 : u_T := fun k => match k with
  | 0 => ("LinearizabilityCheckerModel", "objects", "I", false)
  | 1 => ("LinearizabilityCheckerModel", "types", "[I", true)
  | 2 => ("LinearizabilityCheckerModel", "initials", "[I", true)
  | 3 => ("LinearizabilityCheckerModel", "operations", "I", false)
  | 4 => ("LinearizabilityCheckerModel", "kinds", "[I", true)
  | 5 => ("LinearizabilityCheckerModel", "threads", "[I", true)
  | 6 => ("LinearizabilityCheckerModel", "targets", "[I", true)
  | 7 => ("LinearizabilityCheckerModel", "firsts", "[I", true)
  | 8 => ("LinearizabilityCheckerModel", "seconds", "[I", true)
  | 9 => ("LinearizabilityCheckerModel", "invocations", "[I", true)
  | 10 => ("LinearizabilityCheckerModel", "responses", "[I", true)
  | 11 => ("LinearizabilityCheckerModel", "results", "[I", true)
  | 12 => ("LinearizabilityCheckerModel", "events", "I", false)
  | 13 => ("LinearizabilityCheckerModel", "eventTypes", "[I", true)
  | 14 => ("LinearizabilityCheckerModel", "eventThreads", "[I", true)
  | 15 => ("LinearizabilityCheckerModel", "eventOperations", "[I", true)
  | 16 => ("LinearizabilityCheckerModel", "ordered", "I", false)
  | 17 => ("LinearizabilityCheckerModel", "order", "[I", true)
  | 18 => ("LinearizabilityCheckerModel", "chains", "[I", true)
  | 19 => ("LinearizabilityCheckerModel", "stored", "[I", true)
  | 20 => ("LinearizabilityCheckerModel", "queues", "[I", true)
  | 21 => ("LinearizabilityCheckerModel", "heads", "[I", true)
  | 22 => ("LinearizabilityCheckerModel", "tails", "[I", true)
  | 23 => ("LinearizabilityCheckerModel", "members", "[Z", true)
  | 24 => ("LinearizabilityCheckerModel", "limit", "I", false)
  | 25 => ("LinearizabilityCheckerModel", "onlyObject", "I", false)
  | 26 => ("LinearizabilityCheckerModel", "isProgramOrder", "Z", false)
  | 27 => ("LinearizabilityCheckerModel", "isCounting", "Z", false)
  | 28 => ("LinearizabilityCheckerModel", "wanted", "I", false)
  | 29 => ("LinearizabilityCheckerModel", "found", "I", false)
  | 30 => ("LinearizabilityCheckerModel", "length", "I", false)
  | 31 => ("LinearizabilityCheckerModel", "sequence", "[I", true)
  | 32 => ("LinearizabilityCheckerModel", "first", "[I", true)
  | 33 => ("LinearizabilityCheckerModel", "seen", "[Z", true)
  | 34 => ("LinearizabilityCheckerModel", "names", "[C", true)
  | 35 => ("LinearizabilityCheckerModel", "text", "[I", true)
  | 36 => ("LinearizabilityCheckerModel", "size", "I", false)
  | 37 => ("LinearizabilityCheckerModel", "end", "I", false)
  | 38 => ("LinearizabilityCheckerModel", "at", "I", false)
  | 39 => ("LinearizabilityCheckerModel", "kind", "I", false)
  | 40 => ("LinearizabilityCheckerModel", "parsed", "[I", true)
  | 41 => ("LinearizabilityCheckerModel", "isSaved", "Z", false)
  | 42 => ("LinearizabilityCheckerModel", "saved", "[I", true)
  | _ => ("LinearizabilityCheckerModel", "next", "I", false)
def tyX9 : Nat → FieldType := fun k => match k with
  | 0 => .int
  | 1 => .array .int
  | 2 => .array .int
  | 3 => .int
  | 4 => .array .int
  | 5 => .array .int
  | 6 => .array .int
  | 7 => .array .int
  | 8 => .array .int
  | 9 => .array .int
  | 10 => .array .int
  | 11 => .array .int
  | 12 => .int
  | 13 => .array .int
  | 14 => .array .int
  | 15 => .array .int
  | 16 => .int
  | 17 => .array .int
  | 18 => .array .int
  | 19 => .array .int
  | 20 => .array .int
  | 21 => .array .int
  | 22 => .array .int
  | 23 => .array .boolean
  | 24 => .int
  | 25 => .int
  | 26 => .boolean
  | 27 => .boolean
  | 28 => .int
  | 29 => .int
  | 30 => .int
  | 31 => .array .int
  | 32 => .array .int
  | 33 => .array .boolean
  | 34 => .array .char
  | 35 => .array .int
  | 36 => .int
  | 37 => .int
  | 38 => .int
  | 39 => .int
  | 40 => .array .int
  | 41 => .boolean
  | 42 => .array .int
  | _ => .int
abbrev wsX90 : List Cond := u_ws RX9 TX9 44
theorem nmX9 : ∀ a, a < 44 → ∀ b, b < 44 → a ≠ b → (TX9 a).2.1 ≠ (TX9 b).2.1 := by decide +kernel
theorem tyX9_ok : ∀ k, k < 44 → parseFieldDescriptor (TX9 k).2.2.1 = some (tyX9 k) := by decide +kernel
abbrev cX9_init : ByteArray := prog_11_method_1_code
def yX9_init : MethodName := ⟨RX9, "<init>", "()V"⟩
abbrev cX9_isIn : ByteArray := prog_11_method_2_code
def yX9_isIn : MethodName := ⟨RX9, "isIn", "(III)Z"⟩
abbrev cX9_isThread : ByteArray := prog_11_method_3_code
def yX9_isThread : MethodName := ⟨RX9, "isThread", "(I)Z"⟩
abbrev cX9_isObject : ByteArray := prog_11_method_4_code
def yX9_isObject : MethodName := ⟨RX9, "isObject", "(I)Z"⟩
abbrev cX9_isOperation : ByteArray := prog_11_method_5_code
def yX9_isOperation : MethodName := ⟨RX9, "isOperation", "(I)Z"⟩
abbrev cX9_pendingOf : ByteArray := prog_11_method_6_code
def yX9_pendingOf : MethodName := ⟨RX9, "pendingOf", "(I)I"⟩
abbrev cX9_isCrashed : ByteArray := prog_11_method_7_code
def yX9_isCrashed : MethodName := ⟨RX9, "isCrashed", "(I)Z"⟩
abbrev cX9_append : ByteArray := prog_11_method_8_code
def yX9_append : MethodName := ⟨RX9, "append", "(III)I"⟩
abbrev cX9_create : ByteArray := prog_11_method_9_code
def yX9_create : MethodName := ⟨RX9, "create", "(II)I"⟩
abbrev cX9_createRegister : ByteArray := prog_11_method_10_code
def yX9_createRegister : MethodName := ⟨RX9, "createRegister", "(I)I"⟩
abbrev cX9_createCounter : ByteArray := prog_11_method_11_code
def yX9_createCounter : MethodName := ⟨RX9, "createCounter", "(I)I"⟩
abbrev cX9_createQueue : ByteArray := prog_11_method_12_code
def yX9_createQueue : MethodName := ⟨RX9, "createQueue", "()I"⟩
abbrev cX9_createSet : ByteArray := prog_11_method_13_code
def yX9_createSet : MethodName := ⟨RX9, "createSet", "()I"⟩
abbrev cX9_objectCount : ByteArray := prog_11_method_14_code
def yX9_objectCount : MethodName := ⟨RX9, "objectCount", "()I"⟩
abbrev cX9_typeOf : ByteArray := prog_11_method_15_code
def yX9_typeOf : MethodName := ⟨RX9, "typeOf", "(I)I"⟩
abbrev cX9_reset : ByteArray := prog_11_method_16_code
def yX9_reset : MethodName := ⟨RX9, "reset", "()I"⟩
abbrev cX9_typeFor : ByteArray := prog_11_method_17_code
def yX9_typeFor : MethodName := ⟨RX9, "typeFor", "(I)I"⟩
abbrev cX9_isArgument : ByteArray := prog_11_method_18_code
def yX9_isArgument : MethodName := ⟨RX9, "isArgument", "(II)Z"⟩
abbrev cX9_invoke : ByteArray := prog_11_method_19_code
def yX9_invoke : MethodName := ⟨RX9, "invoke", "(IIIII)I"⟩
abbrev cX9_invokeRead : ByteArray := prog_11_method_20_code
def yX9_invokeRead : MethodName := ⟨RX9, "invokeRead", "(II)I"⟩
abbrev cX9_invokeWrite : ByteArray := prog_11_method_21_code
def yX9_invokeWrite : MethodName := ⟨RX9, "invokeWrite", "(III)I"⟩
abbrev cX9_invokeCompareAndSet : ByteArray := prog_11_method_22_code
def yX9_invokeCompareAndSet : MethodName := ⟨RX9, "invokeCompareAndSet", "(IIII)I"⟩
abbrev cX9_invokeGet : ByteArray := prog_11_method_23_code
def yX9_invokeGet : MethodName := ⟨RX9, "invokeGet", "(II)I"⟩
abbrev cX9_invokeAdd : ByteArray := prog_11_method_24_code
def yX9_invokeAdd : MethodName := ⟨RX9, "invokeAdd", "(III)I"⟩
abbrev cX9_invokeEnqueue : ByteArray := prog_11_method_25_code
def yX9_invokeEnqueue : MethodName := ⟨RX9, "invokeEnqueue", "(III)I"⟩
abbrev cX9_invokeDequeue : ByteArray := prog_11_method_26_code
def yX9_invokeDequeue : MethodName := ⟨RX9, "invokeDequeue", "(II)I"⟩
abbrev cX9_invokeInsert : ByteArray := prog_11_method_27_code
def yX9_invokeInsert : MethodName := ⟨RX9, "invokeInsert", "(III)I"⟩
abbrev cX9_invokeRemove : ByteArray := prog_11_method_28_code
def yX9_invokeRemove : MethodName := ⟨RX9, "invokeRemove", "(III)I"⟩
abbrev cX9_invokeContains : ByteArray := prog_11_method_29_code
def yX9_invokeContains : MethodName := ⟨RX9, "invokeContains", "(III)I"⟩
abbrev cX9_minResult : ByteArray := prog_11_method_30_code
def yX9_minResult : MethodName := ⟨RX9, "minResult", "(I)I"⟩
abbrev cX9_maxResult : ByteArray := prog_11_method_31_code
def yX9_maxResult : MethodName := ⟨RX9, "maxResult", "(I)I"⟩
abbrev cX9_mayRespond : ByteArray := prog_11_method_32_code
def yX9_mayRespond : MethodName := ⟨RX9, "mayRespond", "(I)I"⟩
abbrev cX9_mayRespondWith : ByteArray := prog_11_method_33_code
def yX9_mayRespondWith : MethodName := ⟨RX9, "mayRespondWith", "(II)I"⟩
abbrev cX9_respond : ByteArray := prog_11_method_34_code
def yX9_respond : MethodName := ⟨RX9, "respond", "(II)I"⟩
abbrev cX9_crash : ByteArray := prog_11_method_35_code
def yX9_crash : MethodName := ⟨RX9, "crash", "(I)I"⟩
abbrev cX9_undo : ByteArray := prog_11_method_36_code
def yX9_undo : MethodName := ⟨RX9, "undo", "()I"⟩
abbrev cX9_eventCount : ByteArray := prog_11_method_37_code
def yX9_eventCount : MethodName := ⟨RX9, "eventCount", "()I"⟩
abbrev cX9_operationCount : ByteArray := prog_11_method_38_code
def yX9_operationCount : MethodName := ⟨RX9, "operationCount", "()I"⟩
abbrev cX9_kindOf : ByteArray := prog_11_method_39_code
def yX9_kindOf : MethodName := ⟨RX9, "kindOf", "(I)I"⟩
abbrev cX9_threadOf : ByteArray := prog_11_method_40_code
def yX9_threadOf : MethodName := ⟨RX9, "threadOf", "(I)I"⟩
abbrev cX9_objectOf : ByteArray := prog_11_method_41_code
def yX9_objectOf : MethodName := ⟨RX9, "objectOf", "(I)I"⟩
abbrev cX9_invocationTime : ByteArray := prog_11_method_42_code
def yX9_invocationTime : MethodName := ⟨RX9, "invocationTime", "(I)I"⟩
abbrev cX9_responseTime : ByteArray := prog_11_method_43_code
def yX9_responseTime : MethodName := ⟨RX9, "responseTime", "(I)I"⟩
abbrev cX9_resultOf : ByteArray := prog_11_method_44_code
def yX9_resultOf : MethodName := ⟨RX9, "resultOf", "(I)I"⟩
abbrev cX9_isBefore : ByteArray := prog_11_method_45_code
def yX9_isBefore : MethodName := ⟨RX9, "isBefore", "(II)Z"⟩
abbrev cX9_precedes : ByteArray := prog_11_method_46_code
def yX9_precedes : MethodName := ⟨RX9, "precedes", "(II)I"⟩
abbrev cX9_maxPending : ByteArray := prog_11_method_47_code
def yX9_maxPending : MethodName := ⟨RX9, "maxPending", "()I"⟩
abbrev cX9_longestChain : ByteArray := prog_11_method_48_code
def yX9_longestChain : MethodName := ⟨RX9, "longestChain", "()I"⟩
abbrev cX9_start : ByteArray := prog_11_method_49_code
def yX9_start : MethodName := ⟨RX9, "start", "()V"⟩
abbrev cX9_execute : ByteArray := prog_11_method_50_code
def yX9_execute : MethodName := ⟨RX9, "execute", "(I)I"⟩
abbrev cX9_takeBack : ByteArray := prog_11_method_51_code
def yX9_takeBack : MethodName := ⟨RX9, "takeBack", "(III)V"⟩
abbrev cX9_isThere : ByteArray := prog_11_method_52_code
def yX9_isThere : MethodName := ⟨RX9, "isThere", "(I)Z"⟩
abbrev cX9_isComplete : ByteArray := prog_11_method_53_code
def yX9_isComplete : MethodName := ⟨RX9, "isComplete", "(I)Z"⟩
abbrev cX9_isReady : ByteArray := prog_11_method_54_code
def yX9_isReady : MethodName := ⟨RX9, "isReady", "(II)Z"⟩
abbrev cX9_hasAll : ByteArray := prog_11_method_55_code
def yX9_hasAll : MethodName := ⟨RX9, "hasAll", "(I)Z"⟩
abbrev cX9_finds : ByteArray := prog_11_method_56_code
def yX9_finds : MethodName := ⟨RX9, "finds", "(III)V"⟩
abbrev cX9_search : ByteArray := prog_11_method_57_code
def yX9_search : MethodName := ⟨RX9, "search", "(III)V"⟩
abbrev cX9_searches : ByteArray := prog_11_method_58_code
def yX9_searches : MethodName := ⟨RX9, "searches", "(IIZZI)I"⟩
abbrev cX9_isLinear : ByteArray := prog_11_method_59_code
def yX9_isLinear : MethodName := ⟨RX9, "isLinear", "(I)Z"⟩
abbrev cX9_isLinearizable : ByteArray := prog_11_method_60_code
def yX9_isLinearizable : MethodName := ⟨RX9, "isLinearizable", "()I"⟩
abbrev cX9_isObjectLinearizable : ByteArray := prog_11_method_61_code
def yX9_isObjectLinearizable : MethodName := ⟨RX9, "isObjectLinearizable", "(I)I"⟩
abbrev cX9_isSequentiallyConsistent : ByteArray := prog_11_method_62_code
def yX9_isSequentiallyConsistent : MethodName := ⟨RX9, "isSequentiallyConsistent", "()I"⟩
abbrev cX9_countLinearizations : ByteArray := prog_11_method_63_code
def yX9_countLinearizations : MethodName := ⟨RX9, "countLinearizations", "()I"⟩
abbrev cX9_firstLinearizationLength : ByteArray := prog_11_method_64_code
def yX9_firstLinearizationLength : MethodName := ⟨RX9, "firstLinearizationLength", "()I"⟩
abbrev cX9_firstLinearizationAt : ByteArray := prog_11_method_65_code
def yX9_firstLinearizationAt : MethodName := ⟨RX9, "firstLinearizationAt", "(I)I"⟩
abbrev cX9_firstViolation : ByteArray := prog_11_method_66_code
def yX9_firstViolation : MethodName := ⟨RX9, "firstViolation", "()I"⟩
abbrev cX9_canRespond : ByteArray := prog_11_method_67_code
def yX9_canRespond : MethodName := ⟨RX9, "canRespond", "(II)I"⟩
abbrev cX9_countResponses : ByteArray := prog_11_method_68_code
def yX9_countResponses : MethodName := ⟨RX9, "countResponses", "(I)I"⟩
abbrev cX9_positionOf : ByteArray := prog_11_method_69_code
def yX9_positionOf : MethodName := ⟨RX9, "positionOf", "(I)I"⟩
abbrev cX9_appendToOrder : ByteArray := prog_11_method_70_code
def yX9_appendToOrder : MethodName := ⟨RX9, "appendToOrder", "(I)I"⟩
abbrev cX9_removeFromOrder : ByteArray := prog_11_method_71_code
def yX9_removeFromOrder : MethodName := ⟨RX9, "removeFromOrder", "(I)I"⟩
abbrev cX9_orderSize : ByteArray := prog_11_method_72_code
def yX9_orderSize : MethodName := ⟨RX9, "orderSize", "()I"⟩
abbrev cX9_orderAt : ByteArray := prog_11_method_73_code
def yX9_orderAt : MethodName := ⟨RX9, "orderAt", "(I)I"⟩
abbrev cX9_firstBadPosition : ByteArray := prog_11_method_74_code
def yX9_firstBadPosition : MethodName := ⟨RX9, "firstBadPosition", "()I"⟩
abbrev cX9_isOrderLinearization : ByteArray := prog_11_method_75_code
def yX9_isOrderLinearization : MethodName := ⟨RX9, "isOrderLinearization", "()I"⟩
abbrev cX9_appendCharacter : ByteArray := prog_11_method_76_code
def yX9_appendCharacter : MethodName := ⟨RX9, "appendCharacter", "(I)I"⟩
abbrev cX9_clearText : ByteArray := prog_11_method_77_code
def yX9_clearText : MethodName := ⟨RX9, "clearText", "()I"⟩
abbrev cX9_isAt : ByteArray := prog_11_method_78_code
def yX9_isAt : MethodName := ⟨RX9, "isAt", "(II)Z"⟩
abbrev cX9_takes : ByteArray := prog_11_method_79_code
def yX9_takes : MethodName := ⟨RX9, "takes", "(I)Z"⟩
abbrev cX9_takesDigit : ByteArray := prog_11_method_80_code
def yX9_takesDigit : MethodName := ⟨RX9, "takesDigit", "(I)Z"⟩
abbrev cX9_takesNumber : ByteArray := prog_11_method_81_code
def yX9_takesNumber : MethodName := ⟨RX9, "takesNumber", "(I)Z"⟩
abbrev cX9_matched : ByteArray := prog_11_method_82_code
def yX9_matched : MethodName := ⟨RX9, "matched", "(II)I"⟩
abbrev cX9_takesName : ByteArray := prog_11_method_83_code
def yX9_takesName : MethodName := ⟨RX9, "takesName", "()Z"⟩
abbrev cX9_argumentsOf : ByteArray := prog_11_method_84_code
def yX9_argumentsOf : MethodName := ⟨RX9, "argumentsOf", "(I)I"⟩
abbrev cX9_takesInvocation : ByteArray := prog_11_method_85_code
def yX9_takesInvocation : MethodName := ⟨RX9, "takesInvocation", "()Z"⟩
abbrev cX9_takesCommand : ByteArray := prog_11_method_86_code
def yX9_takesCommand : MethodName := ⟨RX9, "takesCommand", "()Z"⟩
abbrev cX9_done : ByteArray := prog_11_method_87_code
def yX9_done : MethodName := ⟨RX9, "done", "()I"⟩
abbrev cX9_parseText : ByteArray := prog_11_method_88_code
def yX9_parseText : MethodName := ⟨RX9, "parseText", "()I"⟩
abbrev cX9_copy : ByteArray := prog_11_method_89_code
def yX9_copy : MethodName := ⟨RX9, "copy", "([IZ)V"⟩
abbrev cX9_copyAll : ByteArray := prog_11_method_90_code
def yX9_copyAll : MethodName := ⟨RX9, "copyAll", "(Z)V"⟩
abbrev cX9_saveSnapshot : ByteArray := prog_11_method_91_code
def yX9_saveSnapshot : MethodName := ⟨RX9, "saveSnapshot", "()I"⟩
abbrev cX9_restoreSnapshot : ByteArray := prog_11_method_92_code
def yX9_restoreSnapshot : MethodName := ⟨RX9, "restoreSnapshot", "()I"⟩
def RJ9 : String := "java/lang/Math"
def TJ9 : u_T := fun k => match k with
  | _ => ("", "", "", false)
def tyJ9 : Nat → FieldType := fun k => match k with
  | _ => .int
abbrev wsJ90 : List Cond := u_ws RJ9 TJ9 0
theorem nmJ9 : ∀ a, a < 0 → ∀ b, b < 0 → a ≠ b → (TJ9 a).2.1 ≠ (TJ9 b).2.1 := by decide +kernel
theorem tyJ9_ok : ∀ k, k < 0 → parseFieldDescriptor (TJ9 k).2.2.1 = some (tyJ9 k) := by decide +kernel
abbrev cJ9_max_7cf53 : ByteArray := prog_12_method_65_code
def yJ9_max_7cf53 : MethodName := ⟨RJ9, "max", "(II)I"⟩
def RJ0 : String := "java/lang/String"
def TJ0 : u_T := fun k => match k with
  | _ => ("", "", "", false)
def tyJ0 : Nat → FieldType := fun k => match k with
  | _ => .int
abbrev wsJ00 : List Cond := u_ws RJ0 TJ0 0
theorem nmJ0 : ∀ a, a < 0 → ∀ b, b < 0 → a ≠ b → (TJ0 a).2.1 ≠ (TJ0 b).2.1 := by decide +kernel
theorem tyJ0_ok : ∀ k, k < 0 → parseFieldDescriptor (TJ0 k).2.2.1 = some (tyJ0 k) := by decide +kernel
abbrev cJ0_length_8abf5 : ByteArray := prog_13_method_54_code
def yJ0_length_8abf5 : MethodName := ⟨RJ0, "length", "()I"⟩
abbrev cJ0_charAt_5068e : ByteArray := prog_13_method_56_code
def yJ0_charAt_5068e : MethodName := ⟨RJ0, "charAt", "(I)C"⟩
abbrev cJ0_coder_7d493 : ByteArray := prog_13_method_152_code
def yJ0_coder_7d493 : MethodName := ⟨RJ0, "coder", "()B"⟩
abbrev cJ0_isLatin1_aae02 : ByteArray := prog_13_method_154_code
def yJ0_isLatin1_aae02 : MethodName := ⟨RJ0, "isLatin1", "()Z"⟩
abbrev cJ0_checkIndex_df160 : ByteArray := prog_13_method_155_code
def yJ0_checkIndex_df160 : MethodName := ⟨RJ0, "checkIndex", "(II)V"⟩
def RJ1 : String := "java/lang/StringLatin1"
def TJ1 : u_T := fun k => match k with
  | _ => ("", "", "", false)
def tyJ1 : Nat → FieldType := fun k => match k with
  | _ => .int
abbrev wsJ10 : List Cond := u_ws RJ1 TJ1 0
theorem nmJ1 : ∀ a, a < 0 → ∀ b, b < 0 → a ≠ b → (TJ1 a).2.1 ≠ (TJ1 b).2.1 := by decide +kernel
theorem tyJ1_ok : ∀ k, k < 0 → parseFieldDescriptor (TJ1 k).2.2.1 = some (tyJ1 k) := by decide +kernel
abbrev cJ1_charAt_3b067 : ByteArray := prog_14_method_2_code
def yJ1_charAt_3b067 : MethodName := ⟨RJ1, "charAt", "([BI)C"⟩
def RJ2 : String := "java/lang/StringUTF16"
def TJ2 : u_T := fun k => match k with
  | _ => ("", "", "", false)
def tyJ2 : Nat → FieldType := fun k => match k with
  | _ => .int
abbrev wsJ20 : List Cond := u_ws RJ2 TJ2 0
theorem nmJ2 : ∀ a, a < 0 → ∀ b, b < 0 → a ≠ b → (TJ2 a).2.1 ≠ (TJ2 b).2.1 := by decide +kernel
theorem tyJ2_ok : ∀ k, k < 0 → parseFieldDescriptor (TJ2 k).2.2.1 = some (tyJ2 k) := by decide +kernel
abbrev cJ2_getChar_3b067 : ByteArray := prog_15_method_5_code
def yJ2_getChar_3b067 : MethodName := ⟨RJ2, "getChar", "([BI)C"⟩
abbrev cJ2_length_9d52b : ByteArray := prog_15_method_6_code
def yJ2_length_9d52b : MethodName := ⟨RJ2, "length", "([B)I"⟩
abbrev cJ2_charAt_3b067 : ByteArray := prog_15_method_83_code
def yJ2_charAt_3b067 : MethodName := ⟨RJ2, "charAt", "([BI)C"⟩
abbrev cJ2_checkIndex_2214a : ByteArray := prog_15_method_91_code
def yJ2_checkIndex_2214a : MethodName := ⟨RJ2, "checkIndex", "(I[B)V"⟩
def RJ10 : String := "java/lang/System"
def TJ10 : u_T := fun k => match k with
  | _ => ("", "", "", false)
def tyJ10 : Nat → FieldType := fun k => match k with
  | _ => .int
abbrev wsJ100 : List Cond := u_ws RJ10 TJ10 0
theorem nmJ10 : ∀ a, a < 0 → ∀ b, b < 0 → a ≠ b → (TJ10 a).2.1 ≠ (TJ10 b).2.1 := by decide +kernel
theorem tyJ10_ok : ∀ k, k < 0 → parseFieldDescriptor (TJ10 k).2.2.1 = some (tyJ10 k) := by decide +kernel
def RJ3 : String := "jdk/internal/util/Preconditions"
def TJ3 : u_T := fun k => match k with
  | _ => ("", "", "", false)
def tyJ3 : Nat → FieldType := fun k => match k with
  | _ => .int
abbrev wsJ30 : List Cond := u_ws RJ3 TJ3 0
theorem nmJ3 : ∀ a, a < 0 → ∀ b, b < 0 → a ≠ b → (TJ3 a).2.1 ≠ (TJ3 b).2.1 := by decide +kernel
theorem tyJ3_ok : ∀ k, k < 0 → parseFieldDescriptor (TJ3 k).2.2.1 = some (tyJ3 k) := by decide +kernel
abbrev cJ3_checkIndex_8e157 : ByteArray := prog_17_method_11_code
def yJ3_checkIndex_8e157 : MethodName := ⟨RJ3, "checkIndex", "(IILjava/util/function/BiFunction;)I"⟩
def RL : String := "LinearizabilityCheckerLaw"
abbrev cL_law : ByteArray := code
def yL_law : MethodName := ⟨RL, "law", "([I)Z"⟩
def wsL_law_r1 : List Cond := [Cond.classLink RL 7 RX8, Cond.instantiable RX8 6, Cond.initialized RX8, Cond.classLink RL 10 RX9, Cond.instantiable RX9 44, Cond.initialized RX9, Cond.methodLink RL 9 yX8_init, Cond.instanceMethod yX8_init, Cond.code yX8_init cX8_init 1 none, Cond.methodLink RX8 3 objectInit, Cond.instanceMethod objectInit, Cond.code objectInit ⟨#[0xb1]⟩ 1 none, Cond.classLink RX8 9 RX4, Cond.instantiable RX4 3, Cond.initialized RX4, Cond.fieldLink RX8 12 "LinearizabilityChecker" "current" "LLinearizabilityChecker$Recording;", Cond.fieldLink RX8 16 "LinearizabilityChecker" "saved" "LLinearizabilityChecker$Recording;", Cond.classLink RX8 19 RX5, Cond.instantiable RX5 15, Cond.initialized RX5, Cond.fieldLink RX8 24 "LinearizabilityChecker" "search" "LLinearizabilityChecker$Search;", Cond.classLink RX8 28 RX7, Cond.instantiable RX7 2, Cond.initialized RX7]
def wsL_law_r2 : List Cond := [Cond.fieldLink RX8 31 "LinearizabilityChecker" "text" "LLinearizabilityChecker$TextBuffer;", Cond.classLink RX8 35 RX3, Cond.instantiable RX3 10, Cond.initialized RX3, Cond.fieldLink RX8 40 "LinearizabilityChecker" "parser" "LLinearizabilityChecker$Parser;", Cond.fieldLink RX8 44 "LinearizabilityChecker" "hasSnapshot" "Z", Cond.instanceMethod yX4_init, Cond.code yX4_init cX4_init 1 none, Cond.methodLink RX4 1 objectInit, Cond.classLink RX4 7 RX1, Cond.instantiable RX1 3, Cond.initialized RX1, Cond.fieldLink RX4 10 "LinearizabilityChecker$Recording" "objects" "LLinearizabilityChecker$ObjectTable;", Cond.classLink RX4 16 RX0, Cond.instantiable RX0 16, Cond.initialized RX0, Cond.fieldLink RX4 19 "LinearizabilityChecker$Recording" "history" "LLinearizabilityChecker$History;", Cond.classLink RX4 23 RX2, Cond.instantiable RX2 2, Cond.initialized RX2, Cond.fieldLink RX4 26 "LinearizabilityChecker$Recording" "order" "LLinearizabilityChecker$OrderBuffer;", Cond.instanceMethod yX1_init, Cond.code yX1_init cX1_init 1 none, Cond.methodLink RX1 3 objectInit]
def wsL_law_r3 : List Cond := [Cond.arrayClass .int, Cond.fieldLink RX1 9 "LinearizabilityChecker$ObjectTable" "types" "[I", Cond.fieldLink RX1 15 "LinearizabilityChecker$ObjectTable" "initials" "[I", Cond.methodLink RX4 18 yX0_init, Cond.instanceMethod yX0_init, Cond.code yX0_init cX0_init 1 none, Cond.methodLink RX0 3 objectInit, Cond.fieldLink RX0 9 "LinearizabilityChecker$History" "eventForms" "[I", Cond.fieldLink RX0 15 "LinearizabilityChecker$History" "eventThreads" "[I", Cond.fieldLink RX0 18 "LinearizabilityChecker$History" "eventOperations" "[I", Cond.fieldLink RX0 21 "LinearizabilityChecker$History" "kinds" "[I", Cond.fieldLink RX0 24 "LinearizabilityChecker$History" "threads" "[I", Cond.fieldLink RX0 27 "LinearizabilityChecker$History" "objects" "[I", Cond.fieldLink RX0 30 "LinearizabilityChecker$History" "firstArguments" "[I", Cond.fieldLink RX0 33 "LinearizabilityChecker$History" "secondArguments" "[I", Cond.fieldLink RX0 36 "LinearizabilityChecker$History" "invokedAt" "[I", Cond.fieldLink RX0 39 "LinearizabilityChecker$History" "respondedAt" "[I", Cond.fieldLink RX0 42 "LinearizabilityChecker$History" "results" "[I", Cond.fieldLink RX0 45 "LinearizabilityChecker$History" "pendingOperation" "[I", Cond.arrayClass .boolean, Cond.fieldLink RX0 48 "LinearizabilityChecker$History" "crashed" "[Z", Cond.fieldLink RX0 52 "LinearizabilityChecker$History" "chains" "[I", Cond.methodLink RX0 55 yX0_clearHistory, Cond.instanceMethod yX0_clearHistory]
def wsL_law_r4 : List Cond := [Cond.selects RX0 yX0_clearHistory yX0_clearHistory, Cond.code yX0_clearHistory cX0_clearHistory 2 none, Cond.fieldLink RX0 58 "LinearizabilityChecker$History" "events" "I", Cond.fieldLink RX0 62 "LinearizabilityChecker$History" "operations" "I", Cond.instanceMethod yX2_init, Cond.code yX2_init cX2_init 1 none, Cond.methodLink RX2 3 objectInit, Cond.fieldLink RX2 9 "LinearizabilityChecker$OrderBuffer" "operations" "[I", Cond.methodLink RX8 21 yX5_init, Cond.instanceMethod yX5_init, Cond.code yX5_init cX5_init 3 none, Cond.methodLink RX5 3 objectInit, Cond.classLink RX5 9 RX6, Cond.fieldLink RX5 11 "LinearizabilityChecker$Search" "states" "[LLinearizabilityChecker$SharedState;", Cond.fieldLink RX5 17 "LinearizabilityChecker$Search" "expected" "[I", Cond.fieldLink RX5 21 "LinearizabilityChecker$Search" "before" "[I", Cond.fieldLink RX5 24 "LinearizabilityChecker$Search" "sequence" "[I", Cond.fieldLink RX5 27 "LinearizabilityChecker$Search" "reached" "[Z", Cond.fieldLink RX5 37 "LinearizabilityChecker$Search" "objects" "LLinearizabilityChecker$ObjectTable;", Cond.fieldLink RX5 42 "LinearizabilityChecker$Search" "history" "LLinearizabilityChecker$History;", Cond.instantiable RX6 5, Cond.initialized RX6, Cond.instanceMethod yX6_init, Cond.code yX6_init cX6_init 1 none]
def wsL_law_r5 : List Cond := [Cond.methodLink RX6 3 objectInit, Cond.fieldLink RX6 9 "LinearizabilityChecker$SharedState" "slots" "[I", Cond.fieldLink RX6 15 "LinearizabilityChecker$SharedState" "elements" "[Z", Cond.instanceMethod yX7_init, Cond.code yX7_init cX7_init 1 none, Cond.methodLink RX7 3 objectInit, Cond.arrayClass .char, Cond.fieldLink RX7 9 "LinearizabilityChecker$TextBuffer" "characters" "[C", Cond.methodLink RX8 37 yX3_init, Cond.instanceMethod yX3_init, Cond.code yX3_init cX3_init 2 none, Cond.methodLink RX3 3 objectInit, Cond.fieldLink RX3 9 "LinearizabilityChecker$Parser" "forms" "[I", Cond.fieldLink RX3 15 "LinearizabilityChecker$Parser" "threads" "[I", Cond.fieldLink RX3 18 "LinearizabilityChecker$Parser" "objects" "[I", Cond.fieldLink RX3 21 "LinearizabilityChecker$Parser" "kinds" "[I", Cond.fieldLink RX3 24 "LinearizabilityChecker$Parser" "firstNumbers" "[I", Cond.fieldLink RX3 27 "LinearizabilityChecker$Parser" "secondNumbers" "[I", Cond.fieldLink RX3 30 "LinearizabilityChecker$Parser" "text" "LLinearizabilityChecker$TextBuffer;", Cond.methodLink RL 12 yX9_init, Cond.instanceMethod yX9_init, Cond.code yX9_init cX9_init 1 none, Cond.methodLink RX9 1 objectInit, Cond.fieldLink RX9 9 "LinearizabilityCheckerModel" "types" "[I"]
def wsL_law_r6 : List Cond := [Cond.fieldLink RX9 13 "LinearizabilityCheckerModel" "initials" "[I", Cond.fieldLink RX9 16 "LinearizabilityCheckerModel" "kinds" "[I", Cond.fieldLink RX9 19 "LinearizabilityCheckerModel" "threads" "[I", Cond.fieldLink RX9 22 "LinearizabilityCheckerModel" "targets" "[I", Cond.fieldLink RX9 25 "LinearizabilityCheckerModel" "firsts" "[I", Cond.fieldLink RX9 28 "LinearizabilityCheckerModel" "seconds" "[I", Cond.fieldLink RX9 31 "LinearizabilityCheckerModel" "invocations" "[I", Cond.fieldLink RX9 34 "LinearizabilityCheckerModel" "responses" "[I", Cond.fieldLink RX9 37 "LinearizabilityCheckerModel" "results" "[I", Cond.fieldLink RX9 40 "LinearizabilityCheckerModel" "eventTypes" "[I", Cond.fieldLink RX9 43 "LinearizabilityCheckerModel" "eventThreads" "[I", Cond.fieldLink RX9 46 "LinearizabilityCheckerModel" "eventOperations" "[I", Cond.fieldLink RX9 49 "LinearizabilityCheckerModel" "order" "[I", Cond.fieldLink RX9 52 "LinearizabilityCheckerModel" "chains" "[I", Cond.fieldLink RX9 55 "LinearizabilityCheckerModel" "stored" "[I", Cond.fieldLink RX9 58 "LinearizabilityCheckerModel" "queues" "[I", Cond.fieldLink RX9 61 "LinearizabilityCheckerModel" "heads" "[I", Cond.fieldLink RX9 64 "LinearizabilityCheckerModel" "tails" "[I", Cond.fieldLink RX9 67 "LinearizabilityCheckerModel" "members" "[Z", Cond.fieldLink RX9 71 "LinearizabilityCheckerModel" "sequence" "[I", Cond.fieldLink RX9 74 "LinearizabilityCheckerModel" "first" "[I", Cond.fieldLink RX9 77 "LinearizabilityCheckerModel" "seen" "[Z", Cond.fieldLink RX9 80 "LinearizabilityCheckerModel" "names" "[C", Cond.fieldLink RX9 84 "LinearizabilityCheckerModel" "text" "[I"]
def wsL_law_r7 : List Cond := [Cond.fieldLink RX9 87 "LinearizabilityCheckerModel" "parsed" "[I", Cond.fieldLink RX9 90 "LinearizabilityCheckerModel" "saved" "[I", Cond.methodLink RL 13 yX8_createRegister, Cond.instanceMethod yX8_createRegister, Cond.selects RX8 yX8_createRegister yX8_createRegister, Cond.code yX8_createRegister cX8_createRegister 2 (some .int), Cond.methodLink RX8 48 yX8_isBetween, Cond.static yX8_isBetween, Cond.code yX8_isBetween cX8_isBetween 3 (some .boolean), Cond.methodLink RX8 52 yX8_createObject, Cond.instanceMethod yX8_createObject, Cond.selects RX8 yX8_createObject yX8_createObject, Cond.code yX8_createObject cX8_createObject 4 (some .int), Cond.methodLink RX8 254 yX1_append, Cond.instanceMethod yX1_append, Cond.selects RX1 yX1_append yX1_append, Cond.code yX1_append cX1_append 3 none, Cond.fieldLink RX1 18 "LinearizabilityChecker$ObjectTable" "count" "I", Cond.methodLink RX8 104 yX2_empty, Cond.instanceMethod yX2_empty, Cond.selects RX2 yX2_empty yX2_empty, Cond.code yX2_empty cX2_empty 1 none, Cond.fieldLink RX2 15 "LinearizabilityChecker$OrderBuffer" "size" "I", Cond.methodLink RL 17 yX9_createRegister]
def wsL_law_r8 : List Cond := [Cond.instanceMethod yX9_createRegister, Cond.selects RX9 yX9_createRegister yX9_createRegister, Cond.code yX9_createRegister cX9_createRegister 2 (some .int), Cond.methodLink RX9 93 yX9_isIn, Cond.static yX9_isIn, Cond.code yX9_isIn cX9_isIn 3 (some .boolean), Cond.methodLink RX9 110 yX9_create, Cond.instanceMethod yX9_create, Cond.selects RX9 yX9_create yX9_create, Cond.code yX9_create cX9_create 3 (some .int), Cond.fieldLink RX9 97 "LinearizabilityCheckerModel" "objects" "I", Cond.fieldLink RX9 107 "LinearizabilityCheckerModel" "ordered" "I", Cond.methodLink RL 18 yX8_createCounter, Cond.instanceMethod yX8_createCounter, Cond.selects RX8 yX8_createCounter yX8_createCounter, Cond.code yX8_createCounter cX8_createCounter 2 (some .int), Cond.methodLink RL 21 yX9_createCounter, Cond.instanceMethod yX9_createCounter, Cond.selects RX9 yX9_createCounter yX9_createCounter, Cond.code yX9_createCounter cX9_createCounter 2 (some .int), Cond.methodLink RL 22 yX8_createQueue, Cond.instanceMethod yX8_createQueue, Cond.selects RX8 yX8_createQueue yX8_createQueue, Cond.code yX8_createQueue cX8_createQueue 1 (some .int)]
def wsL_law_r9 : List Cond := [Cond.methodLink RL 26 yX9_createQueue, Cond.instanceMethod yX9_createQueue, Cond.selects RX9 yX9_createQueue yX9_createQueue, Cond.code yX9_createQueue cX9_createQueue 1 (some .int), Cond.methodLink RL 27 yX8_createSet, Cond.instanceMethod yX8_createSet, Cond.selects RX8 yX8_createSet yX8_createSet, Cond.code yX8_createSet cX8_createSet 1 (some .int), Cond.methodLink RL 30 yX9_createSet, Cond.instanceMethod yX9_createSet, Cond.selects RX9 yX9_createSet yX9_createSet, Cond.code yX9_createSet cX9_createSet 1 (some .int), Cond.methodLink RL 31 yX8_objectCount, Cond.instanceMethod yX8_objectCount, Cond.selects RX8 yX8_objectCount yX8_objectCount, Cond.code yX8_objectCount cX8_objectCount 1 (some .int), Cond.methodLink RL 34 yX9_objectCount, Cond.instanceMethod yX9_objectCount, Cond.selects RX9 yX9_objectCount yX9_objectCount, Cond.code yX9_objectCount cX9_objectCount 1 (some .int), Cond.methodLink RL 35 yX8_typeOf, Cond.instanceMethod yX8_typeOf, Cond.selects RX8 yX8_typeOf yX8_typeOf, Cond.code yX8_typeOf cX8_typeOf 2 (some .int)]
def wsL_law_r10 : List Cond := [Cond.methodLink RX8 66 yX1_has, Cond.instanceMethod yX1_has, Cond.selects RX1 yX1_has yX1_has, Cond.code yX1_has cX1_has 2 (some .boolean), Cond.methodLink RL 38 yX9_typeOf, Cond.instanceMethod yX9_typeOf, Cond.selects RX9 yX9_typeOf yX9_typeOf, Cond.code yX9_typeOf cX9_typeOf 2 (some .int), Cond.methodLink RX9 114 yX9_isObject, Cond.instanceMethod yX9_isObject, Cond.selects RX9 yX9_isObject yX9_isObject, Cond.code yX9_isObject cX9_isObject 2 (some .boolean), Cond.methodLink RL 39 yX8_reset, Cond.instanceMethod yX8_reset, Cond.selects RX8 yX8_reset yX8_reset, Cond.code yX8_reset cX8_reset 2 (some .int), Cond.methodLink RX8 83 yX4_clearAll, Cond.instanceMethod yX4_clearAll, Cond.selects RX4 yX4_clearAll yX4_clearAll, Cond.code yX4_clearAll cX4_clearAll 1 none, Cond.methodLink RX4 34 yX0_clearHistory, Cond.methodLink RX4 37 yX2_empty, Cond.methodLink RL 42 yX9_reset, Cond.instanceMethod yX9_reset]
def wsL_law_r11 : List Cond := [Cond.selects RX9 yX9_reset yX9_reset, Cond.code yX9_reset cX9_reset 2 (some .int), Cond.fieldLink RX9 104 "LinearizabilityCheckerModel" "events" "I", Cond.fieldLink RX9 101 "LinearizabilityCheckerModel" "operations" "I", Cond.methodLink RL 43 yX8_invokeRead, Cond.instanceMethod yX8_invokeRead, Cond.selects RX8 yX8_invokeRead yX8_invokeRead, Cond.code yX8_invokeRead cX8_invokeRead 3 (some .int), Cond.methodLink RX8 86 yX8_invoke, Cond.instanceMethod yX8_invoke, Cond.selects RX8 yX8_invoke yX8_invoke, Cond.code yX8_invoke cX8_invoke 8 (some .int), Cond.methodLink RX8 256 yX8_invocationError, Cond.instanceMethod yX8_invocationError, Cond.selects RX8 yX8_invocationError yX8_invocationError, Cond.code yX8_invocationError cX8_invocationError 7 (some .int), Cond.methodLink RX8 109 yX8_isThread, Cond.static yX8_isThread, Cond.code yX8_isThread cX8_isThread 1 (some .boolean), Cond.methodLink RX8 263 yX8_requiredType, Cond.static yX8_requiredType, Cond.code yX8_requiredType cX8_requiredType 1 (some .int), Cond.methodLink RX8 259 yX0_addInvocation, Cond.instanceMethod yX0_addInvocation]
def wsL_law_r12 : List Cond := [Cond.selects RX0 yX0_addInvocation yX0_addInvocation, Cond.code yX0_addInvocation cX0_addInvocation 6 none, Cond.methodLink RX0 73 yX0_addEvent, Cond.instanceMethod yX0_addEvent, Cond.selects RX0 yX0_addEvent yX0_addEvent, Cond.code yX0_addEvent cX0_addEvent 4 none, Cond.methodLink RL 47 yX9_invokeRead, Cond.instanceMethod yX9_invokeRead, Cond.selects RX9 yX9_invokeRead yX9_invokeRead, Cond.code yX9_invokeRead cX9_invokeRead 3 (some .int), Cond.methodLink RX9 139 yX9_invoke, Cond.instanceMethod yX9_invoke, Cond.selects RX9 yX9_invoke yX9_invoke, Cond.code yX9_invoke cX9_invoke 6 (some .int), Cond.methodLink RX9 118 yX9_isThread, Cond.static yX9_isThread, Cond.code yX9_isThread cX9_isThread 1 (some .boolean), Cond.methodLink RX9 121 yX9_typeFor, Cond.static yX9_typeFor, Cond.code yX9_typeFor cX9_typeFor 1 (some .int), Cond.methodLink RX9 125 yX9_isArgument, Cond.static yX9_isArgument, Cond.code yX9_isArgument cX9_isArgument 2 (some .boolean), Cond.methodLink RX9 129 yX9_isCrashed]
def wsL_law_r13 : List Cond := [Cond.instanceMethod yX9_isCrashed, Cond.selects RX9 yX9_isCrashed yX9_isCrashed, Cond.code yX9_isCrashed cX9_isCrashed 4 (some .boolean), Cond.methodLink RX9 132 yX9_pendingOf, Cond.instanceMethod yX9_pendingOf, Cond.selects RX9 yX9_pendingOf yX9_pendingOf, Cond.code yX9_pendingOf cX9_pendingOf 3 (some .int), Cond.methodLink RX9 135 yX9_append, Cond.instanceMethod yX9_append, Cond.selects RX9 yX9_append yX9_append, Cond.code yX9_append cX9_append 4 (some .int), Cond.methodLink RL 48 yX8_invokeWrite, Cond.instanceMethod yX8_invokeWrite, Cond.selects RX8 yX8_invokeWrite yX8_invokeWrite, Cond.code yX8_invokeWrite cX8_invokeWrite 4 (some .int), Cond.methodLink RL 52 yX9_invokeWrite, Cond.instanceMethod yX9_invokeWrite, Cond.selects RX9 yX9_invokeWrite yX9_invokeWrite, Cond.code yX9_invokeWrite cX9_invokeWrite 4 (some .int), Cond.methodLink RL 53 yX8_invokeCompareAndSet, Cond.instanceMethod yX8_invokeCompareAndSet, Cond.selects RX8 yX8_invokeCompareAndSet yX8_invokeCompareAndSet, Cond.code yX8_invokeCompareAndSet cX8_invokeCompareAndSet 5 (some .int), Cond.methodLink RL 57 yX9_invokeCompareAndSet]
def wsL_law_r14 : List Cond := [Cond.instanceMethod yX9_invokeCompareAndSet, Cond.selects RX9 yX9_invokeCompareAndSet yX9_invokeCompareAndSet, Cond.code yX9_invokeCompareAndSet cX9_invokeCompareAndSet 5 (some .int), Cond.methodLink RL 58 yX8_invokeGet, Cond.instanceMethod yX8_invokeGet, Cond.selects RX8 yX8_invokeGet yX8_invokeGet, Cond.code yX8_invokeGet cX8_invokeGet 3 (some .int), Cond.methodLink RL 61 yX9_invokeGet, Cond.instanceMethod yX9_invokeGet, Cond.selects RX9 yX9_invokeGet yX9_invokeGet, Cond.code yX9_invokeGet cX9_invokeGet 3 (some .int), Cond.methodLink RL 62 yX8_invokeAdd, Cond.instanceMethod yX8_invokeAdd, Cond.selects RX8 yX8_invokeAdd yX8_invokeAdd, Cond.code yX8_invokeAdd cX8_invokeAdd 4 (some .int), Cond.methodLink RL 65 yX9_invokeAdd, Cond.instanceMethod yX9_invokeAdd, Cond.selects RX9 yX9_invokeAdd yX9_invokeAdd, Cond.code yX9_invokeAdd cX9_invokeAdd 4 (some .int), Cond.methodLink RL 66 yX8_invokeEnqueue, Cond.instanceMethod yX8_invokeEnqueue, Cond.selects RX8 yX8_invokeEnqueue yX8_invokeEnqueue, Cond.code yX8_invokeEnqueue cX8_invokeEnqueue 4 (some .int), Cond.methodLink RL 69 yX9_invokeEnqueue]
def wsL_law_r15 : List Cond := [Cond.instanceMethod yX9_invokeEnqueue, Cond.selects RX9 yX9_invokeEnqueue yX9_invokeEnqueue, Cond.code yX9_invokeEnqueue cX9_invokeEnqueue 4 (some .int), Cond.methodLink RL 70 yX8_invokeDequeue, Cond.instanceMethod yX8_invokeDequeue, Cond.selects RX8 yX8_invokeDequeue yX8_invokeDequeue, Cond.code yX8_invokeDequeue cX8_invokeDequeue 3 (some .int), Cond.methodLink RL 73 yX9_invokeDequeue, Cond.instanceMethod yX9_invokeDequeue, Cond.selects RX9 yX9_invokeDequeue yX9_invokeDequeue, Cond.code yX9_invokeDequeue cX9_invokeDequeue 3 (some .int), Cond.methodLink RL 74 yX8_invokeInsert, Cond.instanceMethod yX8_invokeInsert, Cond.selects RX8 yX8_invokeInsert yX8_invokeInsert, Cond.code yX8_invokeInsert cX8_invokeInsert 4 (some .int), Cond.methodLink RL 77 yX9_invokeInsert, Cond.instanceMethod yX9_invokeInsert, Cond.selects RX9 yX9_invokeInsert yX9_invokeInsert, Cond.code yX9_invokeInsert cX9_invokeInsert 4 (some .int), Cond.methodLink RL 78 yX8_invokeRemove, Cond.instanceMethod yX8_invokeRemove, Cond.selects RX8 yX8_invokeRemove yX8_invokeRemove, Cond.code yX8_invokeRemove cX8_invokeRemove 4 (some .int), Cond.methodLink RL 81 yX9_invokeRemove]
def wsL_law_r16 : List Cond := [Cond.instanceMethod yX9_invokeRemove, Cond.selects RX9 yX9_invokeRemove yX9_invokeRemove, Cond.code yX9_invokeRemove cX9_invokeRemove 4 (some .int), Cond.methodLink RL 82 yX8_invokeContains, Cond.instanceMethod yX8_invokeContains, Cond.selects RX8 yX8_invokeContains yX8_invokeContains, Cond.code yX8_invokeContains cX8_invokeContains 4 (some .int), Cond.methodLink RL 85 yX9_invokeContains, Cond.instanceMethod yX9_invokeContains, Cond.selects RX9 yX9_invokeContains yX9_invokeContains, Cond.code yX9_invokeContains cX9_invokeContains 4 (some .int), Cond.methodLink RL 86 yX8_respond, Cond.instanceMethod yX8_respond, Cond.selects RX8 yX8_respond yX8_respond, Cond.code yX8_respond cX8_respond 5 (some .int), Cond.methodLink RX8 90 yX8_responseError, Cond.instanceMethod yX8_responseError, Cond.selects RX8 yX8_responseError yX8_responseError, Cond.code yX8_responseError cX8_responseError 5 (some .int), Cond.methodLink RX8 196 yX8_waitingError, Cond.instanceMethod yX8_waitingError, Cond.selects RX8 yX8_waitingError yX8_waitingError, Cond.code yX8_waitingError cX8_waitingError 2 (some .int), Cond.methodLink RX8 126 yX0_has]
def wsL_law_r17 : List Cond := [Cond.instanceMethod yX0_has, Cond.selects RX0 yX0_has yX0_has, Cond.code yX0_has cX0_has 2 (some .boolean), Cond.methodLink RX8 200 yX8_lowestResult, Cond.static yX8_lowestResult, Cond.code yX8_lowestResult cX8_lowestResult 1 (some .int), Cond.methodLink RX8 203 yX8_highestResult, Cond.static yX8_highestResult, Cond.code yX8_highestResult cX8_highestResult 1 (some .int), Cond.methodLink RX8 96 yX0_addResponse, Cond.instanceMethod yX0_addResponse, Cond.selects RX0 yX0_addResponse yX0_addResponse, Cond.code yX0_addResponse cX0_addResponse 4 none, Cond.methodLink RX0 77 yX0_has, Cond.methodLink RL 89 yX9_respond, Cond.instanceMethod yX9_respond, Cond.selects RX9 yX9_respond yX9_respond, Cond.code yX9_respond cX9_respond 4 (some .int), Cond.methodLink RX9 152 yX9_mayRespondWith, Cond.instanceMethod yX9_mayRespondWith, Cond.selects RX9 yX9_mayRespondWith yX9_mayRespondWith, Cond.code yX9_mayRespondWith cX9_mayRespondWith 4 (some .int), Cond.methodLink RX9 143 yX9_mayRespond, Cond.instanceMethod yX9_mayRespond]
def wsL_law_r18 : List Cond := [Cond.selects RX9 yX9_mayRespond yX9_mayRespond, Cond.code yX9_mayRespond cX9_mayRespond 3 (some .int), Cond.methodLink RX9 146 yX9_minResult, Cond.static yX9_minResult, Cond.code yX9_minResult cX9_minResult 1 (some .int), Cond.methodLink RX9 149 yX9_maxResult, Cond.static yX9_maxResult, Cond.code yX9_maxResult cX9_maxResult 1 (some .int), Cond.methodLink RL 90 yX8_crash, Cond.instanceMethod yX8_crash, Cond.selects RX8 yX8_crash yX8_crash, Cond.code yX8_crash cX8_crash 3 (some .int), Cond.methodLink RX8 116 yX0_addCrash, Cond.instanceMethod yX0_addCrash, Cond.selects RX0 yX0_addCrash yX0_addCrash, Cond.code yX0_addCrash cX0_addCrash 2 none, Cond.methodLink RL 93 yX9_crash, Cond.instanceMethod yX9_crash, Cond.selects RX9 yX9_crash yX9_crash, Cond.code yX9_crash cX9_crash 2 (some .int), Cond.methodLink RL 94 yX8_undo, Cond.instanceMethod yX8_undo, Cond.selects RX8 yX8_undo yX8_undo, Cond.code yX8_undo cX8_undo 1 (some .int)]
def wsL_law_r19 : List Cond := [Cond.methodLink RX8 120 yX0_removeLastEvent, Cond.instanceMethod yX0_removeLastEvent, Cond.selects RX0 yX0_removeLastEvent yX0_removeLastEvent, Cond.code yX0_removeLastEvent cX0_removeLastEvent 2 none, Cond.methodLink RL 97 yX9_undo, Cond.instanceMethod yX9_undo, Cond.selects RX9 yX9_undo yX9_undo, Cond.code yX9_undo cX9_undo 1 (some .int), Cond.methodLink RL 98 yX8_eventCount, Cond.instanceMethod yX8_eventCount, Cond.selects RX8 yX8_eventCount yX8_eventCount, Cond.code yX8_eventCount cX8_eventCount 1 (some .int), Cond.methodLink RL 101 yX9_eventCount, Cond.instanceMethod yX9_eventCount, Cond.selects RX9 yX9_eventCount yX9_eventCount, Cond.code yX9_eventCount cX9_eventCount 1 (some .int), Cond.methodLink RL 102 yX8_operationCount, Cond.instanceMethod yX8_operationCount, Cond.selects RX8 yX8_operationCount yX8_operationCount, Cond.code yX8_operationCount cX8_operationCount 1 (some .int), Cond.methodLink RL 105 yX9_operationCount, Cond.instanceMethod yX9_operationCount, Cond.selects RX9 yX9_operationCount yX9_operationCount, Cond.code yX9_operationCount cX9_operationCount 1 (some .int)]
def wsL_law_r20 : List Cond := [Cond.methodLink RL 106 yX8_kindOf, Cond.instanceMethod yX8_kindOf, Cond.selects RX8 yX8_kindOf yX8_kindOf, Cond.code yX8_kindOf cX8_kindOf 2 (some .int), Cond.methodLink RL 109 yX9_kindOf, Cond.instanceMethod yX9_kindOf, Cond.selects RX9 yX9_kindOf yX9_kindOf, Cond.code yX9_kindOf cX9_kindOf 2 (some .int), Cond.methodLink RX9 155 yX9_isOperation, Cond.instanceMethod yX9_isOperation, Cond.selects RX9 yX9_isOperation yX9_isOperation, Cond.code yX9_isOperation cX9_isOperation 2 (some .boolean), Cond.methodLink RL 110 yX8_threadOf, Cond.instanceMethod yX8_threadOf, Cond.selects RX8 yX8_threadOf yX8_threadOf, Cond.code yX8_threadOf cX8_threadOf 2 (some .int), Cond.methodLink RL 113 yX9_threadOf, Cond.instanceMethod yX9_threadOf, Cond.selects RX9 yX9_threadOf yX9_threadOf, Cond.code yX9_threadOf cX9_threadOf 2 (some .int), Cond.methodLink RL 114 yX8_objectOf, Cond.instanceMethod yX8_objectOf, Cond.selects RX8 yX8_objectOf yX8_objectOf, Cond.code yX8_objectOf cX8_objectOf 2 (some .int)]
def wsL_law_r21 : List Cond := [Cond.methodLink RL 117 yX9_objectOf, Cond.instanceMethod yX9_objectOf, Cond.selects RX9 yX9_objectOf yX9_objectOf, Cond.code yX9_objectOf cX9_objectOf 2 (some .int), Cond.methodLink RL 118 yX8_invocationTime, Cond.instanceMethod yX8_invocationTime, Cond.selects RX8 yX8_invocationTime yX8_invocationTime, Cond.code yX8_invocationTime cX8_invocationTime 2 (some .int), Cond.methodLink RL 121 yX9_invocationTime, Cond.instanceMethod yX9_invocationTime, Cond.selects RX9 yX9_invocationTime yX9_invocationTime, Cond.code yX9_invocationTime cX9_invocationTime 2 (some .int), Cond.methodLink RL 122 yX8_responseTime, Cond.instanceMethod yX8_responseTime, Cond.selects RX8 yX8_responseTime yX8_responseTime, Cond.code yX8_responseTime cX8_responseTime 2 (some .int), Cond.methodLink RX8 138 yX0_isPending, Cond.instanceMethod yX0_isPending, Cond.selects RX0 yX0_isPending yX0_isPending, Cond.code yX0_isPending cX0_isPending 2 (some .boolean), Cond.methodLink RL 125 yX9_responseTime, Cond.instanceMethod yX9_responseTime, Cond.selects RX9 yX9_responseTime yX9_responseTime, Cond.code yX9_responseTime cX9_responseTime 2 (some .int)]
def wsL_law_r22 : List Cond := [Cond.methodLink RL 126 yX8_resultOf, Cond.instanceMethod yX8_resultOf, Cond.selects RX8 yX8_resultOf yX8_resultOf, Cond.code yX8_resultOf cX8_resultOf 2 (some .int), Cond.methodLink RL 129 yX9_resultOf, Cond.instanceMethod yX9_resultOf, Cond.selects RX9 yX9_resultOf yX9_resultOf, Cond.code yX9_resultOf cX9_resultOf 2 (some .int), Cond.methodLink RL 130 yX8_precedes, Cond.instanceMethod yX8_precedes, Cond.selects RX8 yX8_precedes yX8_precedes, Cond.code yX8_precedes cX8_precedes 3 (some .int), Cond.methodLink RX8 147 yX0_isBefore, Cond.instanceMethod yX0_isBefore, Cond.selects RX0 yX0_isBefore yX0_isBefore, Cond.code yX0_isBefore cX0_isBefore 3 (some .boolean), Cond.methodLink RX0 69 yX0_isPending, Cond.methodLink RX8 151 yX8_truth, Cond.static yX8_truth, Cond.code yX8_truth cX8_truth 1 (some .int), Cond.methodLink RL 133 yX9_precedes, Cond.instanceMethod yX9_precedes, Cond.selects RX9 yX9_precedes yX9_precedes, Cond.code yX9_precedes cX9_precedes 3 (some .int)]
def wsL_law_r23 : List Cond := [Cond.methodLink RX9 158 yX9_isBefore, Cond.instanceMethod yX9_isBefore, Cond.selects RX9 yX9_isBefore yX9_isBefore, Cond.code yX9_isBefore cX9_isBefore 3 (some .boolean), Cond.methodLink RL 134 yX8_maxPending, Cond.instanceMethod yX8_maxPending, Cond.selects RX8 yX8_maxPending yX8_maxPending, Cond.code yX8_maxPending cX8_maxPending 1 (some .int), Cond.methodLink RX8 155 yX0_mostPending, Cond.instanceMethod yX0_mostPending, Cond.selects RX0 yX0_mostPending yX0_mostPending, Cond.code yX0_mostPending cX0_mostPending 4 (some .int), Cond.methodLink RX0 80 Lib.Math.max.name, Cond.static Lib.Math.max.name, Cond.initialized "java/lang/Math", Cond.code Lib.Math.max.name Lib.Math.max.code 2 (some .int), Cond.methodLink RL 137 yX9_maxPending, Cond.instanceMethod yX9_maxPending, Cond.selects RX9 yX9_maxPending yX9_maxPending, Cond.code yX9_maxPending cX9_maxPending 4 (some .int), Cond.methodLink RX9 161 Lib.Math.max.name, Cond.methodLink RL 138 yX8_longestChain, Cond.instanceMethod yX8_longestChain, Cond.selects RX8 yX8_longestChain yX8_longestChain]
def wsL_law_r24 : List Cond := [Cond.code yX8_longestChain cX8_longestChain 1 (some .int), Cond.methodLink RX8 159 yX0_chainLength, Cond.instanceMethod yX0_chainLength, Cond.selects RX0 yX0_chainLength yX0_chainLength, Cond.code yX0_chainLength cX0_chainLength 4 (some .int), Cond.methodLink RX0 86 yX0_isBefore, Cond.methodLink RL 141 yX9_longestChain, Cond.instanceMethod yX9_longestChain, Cond.selects RX9 yX9_longestChain yX9_longestChain, Cond.code yX9_longestChain cX9_longestChain 4 (some .int), Cond.methodLink RL 142 yX8_isLinearizable, Cond.instanceMethod yX8_isLinearizable, Cond.selects RX8 yX8_isLinearizable yX8_isLinearizable, Cond.code yX8_isLinearizable cX8_isLinearizable 1 (some .int), Cond.methodLink RX8 162 yX8_isPrefixLinearizable, Cond.instanceMethod yX8_isPrefixLinearizable, Cond.selects RX8 yX8_isPrefixLinearizable yX8_isPrefixLinearizable, Cond.code yX8_isPrefixLinearizable cX8_isPrefixLinearizable 2 (some .boolean), Cond.methodLink RX8 165 yX5_prepare, Cond.instanceMethod yX5_prepare, Cond.selects RX5 yX5_prepare yX5_prepare, Cond.code yX5_prepare cX5_prepare 5 none, Cond.fieldLink RX5 44 "LinearizabilityChecker$Search" "allowed" "I", Cond.fieldLink RX5 48 "LinearizabilityChecker$Search" "required" "I"]
def wsL_law_r25 : List Cond := [Cond.fieldLink RX5 51 "LinearizabilityChecker$Search" "watched" "I", Cond.fieldLink RX5 74 "LinearizabilityChecker$Search" "compared" "I", Cond.methodLink RX5 64 yX0_isPending, Cond.methodLink RX5 85 yX6_start, Cond.instanceMethod yX6_start, Cond.selects RX6 yX6_start yX6_start, Cond.code yX6_start cX6_start 3 none, Cond.fieldLink RX6 19 "LinearizabilityChecker$SharedState" "value" "I", Cond.fieldLink RX6 23 "LinearizabilityChecker$SharedState" "head" "I", Cond.fieldLink RX6 26 "LinearizabilityChecker$SharedState" "tail" "I", Cond.methodLink RX8 168 yX5_keepRealTimeOrder, Cond.instanceMethod yX5_keepRealTimeOrder, Cond.selects RX5 yX5_keepRealTimeOrder yX5_keepRealTimeOrder, Cond.code yX5_keepRealTimeOrder cX5_keepRealTimeOrder 3 none, Cond.methodLink RX5 89 yX0_isBefore, Cond.methodLink RX8 171 yX5_findsOne, Cond.instanceMethod yX5_findsOne, Cond.selects RX5 yX5_findsOne yX5_findsOne, Cond.code yX5_findsOne cX5_findsOne 1 (some .boolean), Cond.fieldLink RX5 96 "LinearizabilityChecker$Search" "onlyFirst" "Z", Cond.fieldLink RX5 100 "LinearizabilityChecker$Search" "found" "I", Cond.methodLink RX5 103 yX5_extend, Cond.static yX5_extend, Cond.code yX5_extend cX5_extend 4 none]
def wsL_law_r26 : List Cond := [Cond.methodLink RX5 141 yX5_noteFound, Cond.instanceMethod yX5_noteFound, Cond.selects RX5 yX5_noteFound yX5_noteFound, Cond.code yX5_noteFound cX5_noteFound 2 none, Cond.fieldLink RX5 162 "LinearizabilityChecker$Search" "foundLength" "I", Cond.fieldLink RX5 155 "LinearizabilityChecker$Search" "watchedResult" "I", Cond.methodLink RX5 144 yX5_isOver, Cond.instanceMethod yX5_isOver, Cond.selects RX5 yX5_isOver yX5_isOver, Cond.code yX5_isOver cX5_isOver 1 (some .boolean), Cond.methodLink RX5 118 yX5_mayFollow, Cond.instanceMethod yX5_mayFollow, Cond.selects RX5 yX5_mayFollow yX5_mayFollow, Cond.code yX5_mayFollow cX5_mayFollow 4 (some .boolean), Cond.methodLink RX5 148 yX5_tryNext, Cond.instanceMethod yX5_tryNext, Cond.selects RX5 yX5_tryNext yX5_tryNext, Cond.code yX5_tryNext cX5_tryNext 9 none, Cond.methodLink RX5 137 yX6_perform, Cond.instanceMethod yX6_perform, Cond.selects RX6 yX6_perform yX6_perform, Cond.code yX6_perform cX6_perform 4 (some .int), Cond.methodLink RX6 29 yX6_compareAndSet, Cond.instanceMethod yX6_compareAndSet]
def wsL_law_r27 : List Cond := [Cond.selects RX6 yX6_compareAndSet yX6_compareAndSet, Cond.code yX6_compareAndSet cX6_compareAndSet 3 (some .int), Cond.methodLink RX6 33 yX6_enqueue, Cond.instanceMethod yX6_enqueue, Cond.selects RX6 yX6_enqueue yX6_enqueue, Cond.code yX6_enqueue cX6_enqueue 2 (some .int), Cond.methodLink RX6 37 yX6_dequeue, Cond.instanceMethod yX6_dequeue, Cond.selects RX6 yX6_dequeue yX6_dequeue, Cond.code yX6_dequeue cX6_dequeue 1 (some .int), Cond.methodLink RX6 41 yX6_changesElement, Cond.instanceMethod yX6_changesElement, Cond.selects RX6 yX6_changesElement yX6_changesElement, Cond.code yX6_changesElement cX6_changesElement 3 (some .boolean), Cond.methodLink RX5 125 yX5_agrees, Cond.instanceMethod yX5_agrees, Cond.selects RX5 yX5_agrees yX5_agrees, Cond.code yX5_agrees cX5_agrees 3 (some .boolean), Cond.methodLink RX5 158 yX6_takeBack, Cond.instanceMethod yX6_takeBack, Cond.selects RX6 yX6_takeBack yX6_takeBack, Cond.code yX6_takeBack cX6_takeBack 5 none, Cond.methodLink RL 145 yX9_isLinearizable, Cond.instanceMethod yX9_isLinearizable]
def wsL_law_r28 : List Cond := [Cond.selects RX9 yX9_isLinearizable yX9_isLinearizable, Cond.code yX9_isLinearizable cX9_isLinearizable 1 (some .int), Cond.methodLink RX9 220 yX9_isLinear, Cond.instanceMethod yX9_isLinear, Cond.selects RX9 yX9_isLinear yX9_isLinear, Cond.code yX9_isLinear cX9_isLinear 2 (some .boolean), Cond.methodLink RX9 216 yX9_searches, Cond.instanceMethod yX9_searches, Cond.selects RX9 yX9_searches yX9_searches, Cond.code yX9_searches cX9_searches 7 (some .int), Cond.fieldLink RX9 166 "LinearizabilityCheckerModel" "limit" "I", Cond.fieldLink RX9 169 "LinearizabilityCheckerModel" "onlyObject" "I", Cond.fieldLink RX9 172 "LinearizabilityCheckerModel" "isProgramOrder" "Z", Cond.fieldLink RX9 198 "LinearizabilityCheckerModel" "isCounting" "Z", Cond.fieldLink RX9 188 "LinearizabilityCheckerModel" "wanted" "I", Cond.fieldLink RX9 182 "LinearizabilityCheckerModel" "found" "I", Cond.fieldLink RX9 185 "LinearizabilityCheckerModel" "length" "I", Cond.methodLink RX9 213 yX9_start, Cond.instanceMethod yX9_start, Cond.selects RX9 yX9_start yX9_start, Cond.code yX9_start cX9_start 2 none, Cond.methodLink RX9 207 yX9_search, Cond.instanceMethod yX9_search, Cond.selects RX9 yX9_search yX9_search]
def wsL_law_r29 : List Cond := [Cond.code yX9_search cX9_search 7 none, Cond.methodLink RX9 191 yX9_hasAll, Cond.instanceMethod yX9_hasAll, Cond.selects RX9 yX9_hasAll yX9_hasAll, Cond.code yX9_hasAll cX9_hasAll 4 (some .boolean), Cond.methodLink RX9 176 yX9_isThere, Cond.instanceMethod yX9_isThere, Cond.selects RX9 yX9_isThere yX9_isThere, Cond.code yX9_isThere cX9_isThere 2 (some .boolean), Cond.methodLink RX9 179 yX9_isComplete, Cond.instanceMethod yX9_isComplete, Cond.selects RX9 yX9_isComplete yX9_isComplete, Cond.code yX9_isComplete cX9_isComplete 2 (some .boolean), Cond.methodLink RX9 194 yX9_finds, Cond.instanceMethod yX9_finds, Cond.selects RX9 yX9_finds yX9_finds, Cond.code yX9_finds cX9_finds 5 none, Cond.methodLink RX9 201 yX9_isReady, Cond.instanceMethod yX9_isReady, Cond.selects RX9 yX9_isReady yX9_isReady, Cond.code yX9_isReady cX9_isReady 6 (some .boolean), Cond.methodLink RX9 204 yX9_execute, Cond.instanceMethod yX9_execute, Cond.selects RX9 yX9_execute yX9_execute]
def wsL_law_r30 : List Cond := [Cond.code yX9_execute cX9_execute 7 (some .int), Cond.methodLink RX9 210 yX9_takeBack, Cond.instanceMethod yX9_takeBack, Cond.selects RX9 yX9_takeBack yX9_takeBack, Cond.code yX9_takeBack cX9_takeBack 5 none, Cond.methodLink RL 146 yX8_isObjectLinearizable, Cond.instanceMethod yX8_isObjectLinearizable, Cond.selects RX8 yX8_isObjectLinearizable yX8_isObjectLinearizable, Cond.code yX8_isObjectLinearizable cX8_isObjectLinearizable 2 (some .int), Cond.methodLink RL 149 yX9_isObjectLinearizable, Cond.instanceMethod yX9_isObjectLinearizable, Cond.selects RX9 yX9_isObjectLinearizable yX9_isObjectLinearizable, Cond.code yX9_isObjectLinearizable cX9_isObjectLinearizable 2 (some .int), Cond.methodLink RL 150 yX8_isSequentiallyConsistent, Cond.instanceMethod yX8_isSequentiallyConsistent, Cond.selects RX8 yX8_isSequentiallyConsistent yX8_isSequentiallyConsistent, Cond.code yX8_isSequentiallyConsistent cX8_isSequentiallyConsistent 1 (some .int), Cond.methodLink RX8 175 yX5_keepThreadOrder, Cond.instanceMethod yX5_keepThreadOrder, Cond.selects RX5 yX5_keepThreadOrder yX5_keepThreadOrder, Cond.code yX5_keepThreadOrder cX5_keepThreadOrder 3 none, Cond.methodLink RL 153 yX9_isSequentiallyConsistent, Cond.instanceMethod yX9_isSequentiallyConsistent, Cond.selects RX9 yX9_isSequentiallyConsistent yX9_isSequentiallyConsistent]
def wsL_law_r31 : List Cond := [Cond.code yX9_isSequentiallyConsistent cX9_isSequentiallyConsistent 1 (some .int), Cond.methodLink RL 154 yX8_countLinearizations, Cond.instanceMethod yX8_countLinearizations, Cond.selects RX8 yX8_countLinearizations yX8_countLinearizations, Cond.code yX8_countLinearizations cX8_countLinearizations 1 (some .int), Cond.methodLink RX8 178 yX8_prepareWholeHistory, Cond.instanceMethod yX8_prepareWholeHistory, Cond.selects RX8 yX8_prepareWholeHistory yX8_prepareWholeHistory, Cond.code yX8_prepareWholeHistory cX8_prepareWholeHistory 1 none, Cond.methodLink RX8 181 yX5_countAll, Cond.instanceMethod yX5_countAll, Cond.selects RX5 yX5_countAll yX5_countAll, Cond.code yX5_countAll cX5_countAll 1 (some .int), Cond.methodLink RL 157 yX9_countLinearizations, Cond.instanceMethod yX9_countLinearizations, Cond.selects RX9 yX9_countLinearizations yX9_countLinearizations, Cond.code yX9_countLinearizations cX9_countLinearizations 1 (some .int), Cond.methodLink RL 158 yX8_firstLinearizationLength, Cond.instanceMethod yX8_firstLinearizationLength, Cond.selects RX8 yX8_firstLinearizationLength yX8_firstLinearizationLength, Cond.code yX8_firstLinearizationLength cX8_firstLinearizationLength 1 (some .int), Cond.methodLink RL 161 yX9_firstLinearizationLength, Cond.instanceMethod yX9_firstLinearizationLength, Cond.selects RX9 yX9_firstLinearizationLength yX9_firstLinearizationLength]
def wsL_law_r32 : List Cond := [Cond.code yX9_firstLinearizationLength cX9_firstLinearizationLength 1 (some .int), Cond.methodLink RL 162 yX8_firstLinearizationAt, Cond.instanceMethod yX8_firstLinearizationAt, Cond.selects RX8 yX8_firstLinearizationAt yX8_firstLinearizationAt, Cond.code yX8_firstLinearizationAt cX8_firstLinearizationAt 2 (some .int), Cond.methodLink RL 165 yX9_firstLinearizationAt, Cond.instanceMethod yX9_firstLinearizationAt, Cond.selects RX9 yX9_firstLinearizationAt yX9_firstLinearizationAt, Cond.code yX9_firstLinearizationAt cX9_firstLinearizationAt 2 (some .int), Cond.methodLink RL 166 yX8_firstViolation, Cond.instanceMethod yX8_firstViolation, Cond.selects RX8 yX8_firstViolation yX8_firstViolation, Cond.code yX8_firstViolation cX8_firstViolation 2 (some .int), Cond.methodLink RX8 190 yX0_endsWithResponse, Cond.instanceMethod yX0_endsWithResponse, Cond.selects RX0 yX0_endsWithResponse yX0_endsWithResponse, Cond.code yX0_endsWithResponse cX0_endsWithResponse 2 (some .boolean), Cond.methodLink RL 169 yX9_firstViolation, Cond.instanceMethod yX9_firstViolation, Cond.selects RX9 yX9_firstViolation yX9_firstViolation, Cond.code yX9_firstViolation cX9_firstViolation 2 (some .int), Cond.methodLink RL 170 yX8_canRespond, Cond.instanceMethod yX8_canRespond, Cond.selects RX8 yX8_canRespond yX8_canRespond]
def wsL_law_r33 : List Cond := [Cond.code yX8_canRespond cX8_canRespond 4 (some .int), Cond.methodLink RX8 193 yX5_requireResult, Cond.instanceMethod yX5_requireResult, Cond.selects RX5 yX5_requireResult yX5_requireResult, Cond.code yX5_requireResult cX5_requireResult 3 none, Cond.methodLink RL 173 yX9_canRespond, Cond.instanceMethod yX9_canRespond, Cond.selects RX9 yX9_canRespond yX9_canRespond, Cond.code yX9_canRespond cX9_canRespond 4 (some .int), Cond.methodLink RL 174 yX8_countResponses, Cond.instanceMethod yX8_countResponses, Cond.selects RX8 yX8_countResponses yX8_countResponses, Cond.code yX8_countResponses cX8_countResponses 5 (some .int), Cond.methodLink RX8 206 yX5_countResults, Cond.instanceMethod yX5_countResults, Cond.selects RX5 yX5_countResults yX5_countResults, Cond.code yX5_countResults cX5_countResults 6 (some .int), Cond.methodLink RX5 107 yX5_countAll, Cond.methodLink RL 177 yX9_countResponses, Cond.instanceMethod yX9_countResponses, Cond.selects RX9 yX9_countResponses yX9_countResponses, Cond.code yX9_countResponses cX9_countResponses 5 (some .int), Cond.methodLink RL 178 yX8_appendToOrder, Cond.instanceMethod yX8_appendToOrder]
def wsL_law_r34 : List Cond := [Cond.selects RX8 yX8_appendToOrder yX8_appendToOrder, Cond.code yX8_appendToOrder cX8_appendToOrder 2 (some .int), Cond.methodLink RX8 210 yX2_positionOf, Cond.instanceMethod yX2_positionOf, Cond.selects RX2 yX2_positionOf yX2_positionOf, Cond.code yX2_positionOf cX2_positionOf 3 (some .int), Cond.methodLink RX8 213 yX2_append, Cond.instanceMethod yX2_append, Cond.selects RX2 yX2_append yX2_append, Cond.code yX2_append cX2_append 2 none, Cond.methodLink RL 181 yX9_appendToOrder, Cond.instanceMethod yX9_appendToOrder, Cond.selects RX9 yX9_appendToOrder yX9_appendToOrder, Cond.code yX9_appendToOrder cX9_appendToOrder 2 (some .int), Cond.methodLink RX9 223 yX9_positionOf, Cond.instanceMethod yX9_positionOf, Cond.selects RX9 yX9_positionOf yX9_positionOf, Cond.code yX9_positionOf cX9_positionOf 3 (some .int), Cond.methodLink RL 182 yX8_removeFromOrder, Cond.instanceMethod yX8_removeFromOrder, Cond.selects RX8 yX8_removeFromOrder yX8_removeFromOrder, Cond.code yX8_removeFromOrder cX8_removeFromOrder 3 (some .int), Cond.methodLink RX8 219 yX2_removeAt, Cond.instanceMethod yX2_removeAt]
def wsL_law_r35 : List Cond := [Cond.selects RX2 yX2_removeAt yX2_removeAt, Cond.code yX2_removeAt cX2_removeAt 3 none, Cond.methodLink RL 185 yX9_removeFromOrder, Cond.instanceMethod yX9_removeFromOrder, Cond.selects RX9 yX9_removeFromOrder yX9_removeFromOrder, Cond.code yX9_removeFromOrder cX9_removeFromOrder 4 (some .int), Cond.methodLink RL 186 yX8_orderSize, Cond.instanceMethod yX8_orderSize, Cond.selects RX8 yX8_orderSize yX8_orderSize, Cond.code yX8_orderSize cX8_orderSize 1 (some .int), Cond.methodLink RL 189 yX9_orderSize, Cond.instanceMethod yX9_orderSize, Cond.selects RX9 yX9_orderSize yX9_orderSize, Cond.code yX9_orderSize cX9_orderSize 1 (some .int), Cond.methodLink RL 190 yX8_orderAt, Cond.instanceMethod yX8_orderAt, Cond.selects RX8 yX8_orderAt yX8_orderAt, Cond.code yX8_orderAt cX8_orderAt 2 (some .int), Cond.methodLink RL 193 yX9_orderAt, Cond.instanceMethod yX9_orderAt, Cond.selects RX9 yX9_orderAt yX9_orderAt, Cond.code yX9_orderAt cX9_orderAt 2 (some .int), Cond.methodLink RL 194 yX8_isOrderLinearization, Cond.instanceMethod yX8_isOrderLinearization]
def wsL_law_r36 : List Cond := [Cond.selects RX8 yX8_isOrderLinearization yX8_isOrderLinearization, Cond.code yX8_isOrderLinearization cX8_isOrderLinearization 1 (some .int), Cond.methodLink RX8 224 yX5_coversRequired, Cond.instanceMethod yX5_coversRequired, Cond.selects RX5 yX5_coversRequired yX5_coversRequired, Cond.code yX5_coversRequired cX5_coversRequired 4 (some .boolean), Cond.methodLink RX8 228 yX5_badPosition, Cond.instanceMethod yX5_badPosition, Cond.selects RX5 yX5_badPosition yX5_badPosition, Cond.code yX5_badPosition cX5_badPosition 5 (some .int), Cond.methodLink RX5 121 yX5_resultOfNext, Cond.instanceMethod yX5_resultOfNext, Cond.selects RX5 yX5_resultOfNext yX5_resultOfNext, Cond.code yX5_resultOfNext cX5_resultOfNext 3 (some .int), Cond.methodLink RL 197 yX9_isOrderLinearization, Cond.instanceMethod yX9_isOrderLinearization, Cond.selects RX9 yX9_isOrderLinearization yX9_isOrderLinearization, Cond.code yX9_isOrderLinearization cX9_isOrderLinearization 3 (some .int), Cond.methodLink RX9 226 yX9_firstBadPosition, Cond.instanceMethod yX9_firstBadPosition, Cond.selects RX9 yX9_firstBadPosition yX9_firstBadPosition, Cond.code yX9_firstBadPosition cX9_firstBadPosition 6 (some .int), Cond.methodLink RL 198 yX8_firstBadPosition, Cond.instanceMethod yX8_firstBadPosition]
def wsL_law_r37 : List Cond := [Cond.selects RX8 yX8_firstBadPosition yX8_firstBadPosition, Cond.code yX8_firstBadPosition cX8_firstBadPosition 2 (some .int), Cond.methodLink RL 201 yX9_firstBadPosition, Cond.methodLink RL 202 yX8_appendCharacter, Cond.instanceMethod yX8_appendCharacter, Cond.selects RX8 yX8_appendCharacter yX8_appendCharacter, Cond.code yX8_appendCharacter cX8_appendCharacter 2 (some .int), Cond.methodLink RX8 235 yX7_append, Cond.instanceMethod yX7_append, Cond.selects RX7 yX7_append yX7_append, Cond.code yX7_append cX7_append 2 none, Cond.fieldLink RX7 15 "LinearizabilityChecker$TextBuffer" "length" "I", Cond.methodLink RL 205 yX9_appendCharacter, Cond.instanceMethod yX9_appendCharacter, Cond.selects RX9 yX9_appendCharacter yX9_appendCharacter, Cond.code yX9_appendCharacter cX9_appendCharacter 2 (some .int), Cond.fieldLink RX9 230 "LinearizabilityCheckerModel" "size" "I", Cond.methodLink RL 206 yX8_clearText, Cond.instanceMethod yX8_clearText, Cond.selects RX8 yX8_clearText yX8_clearText, Cond.code yX8_clearText cX8_clearText 2 (some .int), Cond.methodLink RX8 238 yX7_empty, Cond.instanceMethod yX7_empty, Cond.selects RX7 yX7_empty yX7_empty]
def wsL_law_r38 : List Cond := [Cond.code yX7_empty cX7_empty 1 none, Cond.methodLink RL 209 yX9_clearText, Cond.instanceMethod yX9_clearText, Cond.selects RX9 yX9_clearText yX9_clearText, Cond.code yX9_clearText cX9_clearText 2 (some .int), Cond.methodLink RL 210 yX8_parseText, Cond.instanceMethod yX8_parseText, Cond.selects RX8 yX8_parseText yX8_parseText, Cond.code yX8_parseText cX8_parseText 3 (some .int), Cond.methodLink RX8 239 yX3_readsAll, Cond.instanceMethod yX3_readsAll, Cond.selects RX3 yX3_readsAll yX3_readsAll, Cond.code yX3_readsAll cX3_readsAll 2 (some .boolean), Cond.fieldLink RX3 34 "LinearizabilityChecker$Parser" "commands" "I", Cond.fieldLink RX3 38 "LinearizabilityChecker$Parser" "position" "I", Cond.fieldLink RX3 41 "LinearizabilityChecker$Parser" "failed" "Z", Cond.methodLink RX3 45 yX3_takeCommand, Cond.instanceMethod yX3_takeCommand, Cond.selects RX3 yX3_takeCommand yX3_takeCommand, Cond.code yX3_takeCommand cX3_takeCommand 2 none, Cond.methodLink RX3 57 yX3_takeDigit, Cond.instanceMethod yX3_takeDigit, Cond.selects RX3 yX3_takeDigit yX3_takeDigit, Cond.code yX3_takeDigit cX3_takeDigit 1 (some .int)]
def wsL_law_r39 : List Cond := [Cond.methodLink RX3 105 yX3_isNextDigit, Cond.instanceMethod yX3_isNextDigit, Cond.selects RX3 yX3_isNextDigit yX3_isNextDigit, Cond.code yX3_isNextDigit cX3_isNextDigit 1 (some .boolean), Cond.methodLink RX3 61 yX3_isNext, Cond.instanceMethod yX3_isNext, Cond.selects RX3 yX3_isNext yX3_isNext, Cond.code yX3_isNext cX3_isNext 2 (some .boolean), Cond.methodLink RX3 101 yX3_isAt, Cond.instanceMethod yX3_isAt, Cond.selects RX3 yX3_isAt yX3_isAt, Cond.code yX3_isAt cX3_isAt 3 (some .boolean), Cond.methodLink RX3 53 yX3_take, Cond.instanceMethod yX3_take, Cond.selects RX3 yX3_take yX3_take, Cond.code yX3_take cX3_take 2 none, Cond.methodLink RX3 65 yX3_takeNumber, Cond.instanceMethod yX3_takeNumber, Cond.selects RX3 yX3_takeNumber yX3_takeNumber, Cond.code yX3_takeNumber cX3_takeNumber 4 (some .int), Cond.methodLink RX3 68 yX3_takeInvocation, Cond.instanceMethod yX3_takeInvocation, Cond.selects RX3 yX3_takeInvocation yX3_takeInvocation, Cond.code yX3_takeInvocation cX3_takeInvocation 3 none]
def wsL_law_r40 : List Cond := [Cond.methodLink RX3 72 yX3_takeName, Cond.instanceMethod yX3_takeName, Cond.selects RX3 yX3_takeName yX3_takeName, Cond.code yX3_takeName cX3_takeName 5 (some .int), Cond.methodLink RX3 91 Lib.Math.max.name, Cond.static yX8_nameOf, Cond.code yX8_nameOf cX8_nameOf 1 (some (.object "java/lang/String")), Cond.methodLink RX3 83 yX3_agreeingCharacters, Cond.instanceMethod yX3_agreeingCharacters, Cond.selects RX3 yX3_agreeingCharacters yX3_agreeingCharacters, Cond.code yX3_agreeingCharacters cX3_agreeingCharacters 3 (some .int), Cond.methodLink RX3 87 yJ0_length_8abf5, Cond.instanceMethod yJ0_length_8abf5, Cond.selects RJ0 yJ0_length_8abf5 yJ0_length_8abf5, Cond.initialized RJ0, Cond.code yJ0_length_8abf5 cJ0_length_8abf5 1 (some .int), Cond.fieldLink RJ0 9 "java/lang/String" "value" "[B", Cond.methodLink RJ0 335 yJ0_coder_7d493, Cond.instanceMethod yJ0_coder_7d493, Cond.selects RJ0 yJ0_coder_7d493 yJ0_coder_7d493, Cond.code yJ0_coder_7d493 cJ0_coder_7d493 1 (some .byte), Cond.fieldLink RJ0 38 "java/lang/String" "COMPACT_STRINGS" "Z", Cond.fieldLink RJ0 15 "java/lang/String" "coder" "B", Cond.methodLink RX3 97 yJ0_charAt_5068e]
def wsL_law_r41 : List Cond := [Cond.instanceMethod yJ0_charAt_5068e, Cond.selects RJ0 yJ0_charAt_5068e yJ0_charAt_5068e, Cond.code yJ0_charAt_5068e cJ0_charAt_5068e 2 (some .char), Cond.methodLink RJ0 492 yJ0_isLatin1_aae02, Cond.instanceMethod yJ0_isLatin1_aae02, Cond.selects RJ0 yJ0_isLatin1_aae02 yJ0_isLatin1_aae02, Cond.code yJ0_isLatin1_aae02 cJ0_isLatin1_aae02 1 (some .boolean), Cond.methodLink RJ0 495 yJ1_charAt_3b067, Cond.static yJ1_charAt_3b067, Cond.initialized RJ1, Cond.code yJ1_charAt_3b067 cJ1_charAt_3b067 2 (some .char), Cond.methodLink RJ1 9 yJ0_checkIndex_df160, Cond.static yJ0_checkIndex_df160, Cond.code yJ0_checkIndex_df160 cJ0_checkIndex_df160 2 none, Cond.fieldLink RJ0 1053 "jdk/internal/util/Preconditions" "SIOOBE_FORMATTER" "Ljava/util/function/BiFunction;", Cond.methodLink RJ0 1059 yJ3_checkIndex_8e157, Cond.static yJ3_checkIndex_8e157, Cond.initialized RJ3, Cond.code yJ3_checkIndex_8e157 cJ3_checkIndex_8e157 3 (some .int), Cond.methodLink RJ0 498 yJ2_charAt_3b067, Cond.static yJ2_charAt_3b067, Cond.initialized RJ2, Cond.code yJ2_charAt_3b067 cJ2_charAt_3b067 2 (some .char), Cond.methodLink RJ2 67 yJ2_checkIndex_2214a]
def wsL_law_r42 : List Cond := [Cond.static yJ2_checkIndex_2214a, Cond.code yJ2_checkIndex_2214a cJ2_checkIndex_2214a 2 none, Cond.methodLink RJ2 48 yJ2_length_9d52b, Cond.static yJ2_length_9d52b, Cond.code yJ2_length_9d52b cJ2_length_9d52b 1 (some .int), Cond.methodLink RJ2 414 yJ0_checkIndex_df160, Cond.methodLink RJ2 71 yJ2_getChar_3b067, Cond.static yJ2_getChar_3b067, Cond.code yJ2_getChar_3b067 cJ2_getChar_3b067 2 (some .char), Cond.fieldLink RJ2 44 "java/lang/StringUTF16" "$assertionsDisabled" "Z", Cond.fieldLink RJ2 59 "java/lang/StringUTF16" "HI_BYTE_SHIFT" "I", Cond.fieldLink RJ2 63 "java/lang/StringUTF16" "LO_BYTE_SHIFT" "I", Cond.static yX8_argumentCount, Cond.code yX8_argumentCount cX8_argumentCount 1 (some .int), Cond.methodLink RX8 248 yX8_execute, Cond.instanceMethod yX8_execute, Cond.selects RX8 yX8_execute yX8_execute, Cond.code yX8_execute cX8_execute 5 (some .int), Cond.methodLink RX8 276 yX8_respond, Cond.methodLink RX8 279 yX8_crash, Cond.methodLink RL 213 yX9_parseText, Cond.instanceMethod yX9_parseText, Cond.selects RX9 yX9_parseText yX9_parseText, Cond.code yX9_parseText cX9_parseText 4 (some .int)]
def wsL_law_r43 : List Cond := [Cond.fieldLink RX9 236 "LinearizabilityCheckerModel" "end" "I", Cond.fieldLink RX9 233 "LinearizabilityCheckerModel" "at" "I", Cond.methodLink RX9 273 yX9_takesCommand, Cond.instanceMethod yX9_takesCommand, Cond.selects RX9 yX9_takesCommand yX9_takesCommand, Cond.code yX9_takesCommand cX9_takesCommand 1 (some .boolean), Cond.fieldLink RX9 248 "LinearizabilityCheckerModel" "kind" "I", Cond.methodLink RX9 251 yX9_takesDigit, Cond.instanceMethod yX9_takesDigit, Cond.selects RX9 yX9_takesDigit yX9_takesDigit, Cond.code yX9_takesDigit cX9_takesDigit 2 (some .boolean), Cond.methodLink RX9 239 yX9_isAt, Cond.instanceMethod yX9_isAt, Cond.selects RX9 yX9_isAt yX9_isAt, Cond.code yX9_isAt cX9_isAt 3 (some .boolean), Cond.methodLink RX9 242 yX9_takes, Cond.instanceMethod yX9_takes, Cond.selects RX9 yX9_takes yX9_takes, Cond.code yX9_takes cX9_takes 3 (some .boolean), Cond.methodLink RX9 261 yX9_takesNumber, Cond.instanceMethod yX9_takesNumber, Cond.selects RX9 yX9_takesNumber yX9_takesNumber, Cond.code yX9_takesNumber cX9_takesNumber 5 (some .boolean), Cond.methodLink RX9 264 yX9_takesInvocation]
def wsL_law_r44 : List Cond := [Cond.instanceMethod yX9_takesInvocation, Cond.selects RX9 yX9_takesInvocation yX9_takesInvocation, Cond.code yX9_takesInvocation cX9_takesInvocation 3 (some .boolean), Cond.methodLink RX9 254 yX9_takesName, Cond.instanceMethod yX9_takesName, Cond.selects RX9 yX9_takesName yX9_takesName, Cond.code yX9_takesName cX9_takesName 8 (some .boolean), Cond.methodLink RX9 245 yX9_matched, Cond.instanceMethod yX9_matched, Cond.selects RX9 yX9_matched yX9_matched, Cond.code yX9_matched cX9_matched 4 (some .int), Cond.methodLink RX9 258 yX9_argumentsOf, Cond.static yX9_argumentsOf, Cond.code yX9_argumentsOf cX9_argumentsOf 1 (some .int), Cond.methodLink RX9 276 yX9_done, Cond.instanceMethod yX9_done, Cond.selects RX9 yX9_done yX9_done, Cond.code yX9_done cX9_done 2 (some .int), Cond.methodLink RX9 267 yX9_crash, Cond.methodLink RX9 270 yX9_respond, Cond.methodLink RL 214 yX8_saveSnapshot, Cond.instanceMethod yX8_saveSnapshot, Cond.selects RX8 yX8_saveSnapshot yX8_saveSnapshot, Cond.code yX8_saveSnapshot cX8_saveSnapshot 1 (some .int)]
def wsL_law_r45 : List Cond := [Cond.methodLink RX8 251 yX4_copyFrom, Cond.instanceMethod yX4_copyFrom, Cond.selects RX4 yX4_copyFrom yX4_copyFrom, Cond.code yX4_copyFrom cX4_copyFrom 2 none, Cond.methodLink RX4 40 yX1_copyObjects, Cond.instanceMethod yX1_copyObjects, Cond.selects RX1 yX1_copyObjects yX1_copyObjects, Cond.code yX1_copyObjects cX1_copyObjects 2 none, Cond.methodLink RX1 26 arraycopyName, Cond.native arraycopyName, Cond.static arraycopyName, Cond.initialized "java/lang/System", Cond.methodLink RX4 44 yX0_copyHistory, Cond.instanceMethod yX0_copyHistory, Cond.selects RX0 yX0_copyHistory yX0_copyHistory, Cond.code yX0_copyHistory cX0_copyHistory 3 none, Cond.methodLink RX0 90 arraycopyName, Cond.methodLink RX4 48 yX2_copyOrder, Cond.instanceMethod yX2_copyOrder, Cond.selects RX2 yX2_copyOrder yX2_copyOrder, Cond.code yX2_copyOrder cX2_copyOrder 2 none, Cond.methodLink RX2 23 arraycopyName, Cond.methodLink RL 217 yX9_saveSnapshot, Cond.instanceMethod yX9_saveSnapshot]
def wsL_law_r46 : List Cond := [Cond.selects RX9 yX9_saveSnapshot yX9_saveSnapshot, Cond.code yX9_saveSnapshot cX9_saveSnapshot 1 (some .int), Cond.fieldLink RX9 286 "LinearizabilityCheckerModel" "isSaved" "Z", Cond.methodLink RX9 289 yX9_copyAll, Cond.instanceMethod yX9_copyAll, Cond.selects RX9 yX9_copyAll yX9_copyAll, Cond.code yX9_copyAll cX9_copyAll 2 none, Cond.fieldLink RX9 279 "LinearizabilityCheckerModel" "next" "I", Cond.methodLink RX9 282 yX9_copy, Cond.instanceMethod yX9_copy, Cond.selects RX9 yX9_copy yX9_copy, Cond.code yX9_copy cX9_copy 4 none, Cond.methodLink RL 218 yX8_restoreSnapshot, Cond.instanceMethod yX8_restoreSnapshot, Cond.selects RX8 yX8_restoreSnapshot yX8_restoreSnapshot, Cond.code yX8_restoreSnapshot cX8_restoreSnapshot 1 (some .int), Cond.methodLink RL 221 yX9_restoreSnapshot, Cond.instanceMethod yX9_restoreSnapshot, Cond.selects RX9 yX9_restoreSnapshot yX9_restoreSnapshot, Cond.code yX9_restoreSnapshot cX9_restoreSnapshot 1 (some .int)]
def wsL_law : List Cond := (wsL_law_r1 ++ (wsL_law_r2 ++ (wsL_law_r3 ++ (wsL_law_r4 ++ (wsL_law_r5 ++ (wsL_law_r6 ++ (wsL_law_r7 ++ (wsL_law_r8 ++ (wsL_law_r9 ++ (wsL_law_r10 ++ (wsL_law_r11 ++ (wsL_law_r12 ++ (wsL_law_r13 ++ (wsL_law_r14 ++ (wsL_law_r15 ++ (wsL_law_r16 ++ (wsL_law_r17 ++ (wsL_law_r18 ++ (wsL_law_r19 ++ (wsL_law_r20 ++ (wsL_law_r21 ++ (wsL_law_r22 ++ (wsL_law_r23 ++ (wsL_law_r24 ++ (wsL_law_r25 ++ (wsL_law_r26 ++ (wsL_law_r27 ++ (wsL_law_r28 ++ (wsL_law_r29 ++ (wsL_law_r30 ++ (wsL_law_r31 ++ (wsL_law_r32 ++ (wsL_law_r33 ++ (wsL_law_r34 ++ (wsL_law_r35 ++ (wsL_law_r36 ++ (wsL_law_r37 ++ (wsL_law_r38 ++ (wsL_law_r39 ++ (wsL_law_r40 ++ (wsL_law_r41 ++ (wsL_law_r42 ++ (wsL_law_r43 ++ (wsL_law_r44 ++ (wsL_law_r45 ++ wsL_law_r46))))))))))))))))))))))))))))))))))))))))))))) ++ wsX80 ++ wsX90 ++ wsX40 ++ wsX50 ++ wsX70 ++ wsX30 ++ wsX10 ++ wsX00 ++ wsX20 ++ wsX60 ++ ([] : List Cond)
theorem ax_pick {big ws : List Cond} (ps : List Nat) (hp : ws = ps.filterMap (fun i => big[i]?)) : ∀ w ∈ ws, w ∈ big := by
  intro w hw
  rw [hp] at hw
  obtain ⟨i, -, hi⟩ := List.mem_filterMap.mp hw
  exact List.mem_of_getElem? hi
theorem tb_0 : ∀ w ∈ k2_sels lw_privs, w ∈ lw_tbl := fun _ h => List.mem_append_left _ h
theorem tb_1 : ∀ w ∈ tables_1_1, w ∈ lw_tbl := fun _ h => List.mem_append_right _ (show _ ∈ tables_1_1 ++ (tables_1_2 ++ (tables_1_3 ++ (tables_1_4 ++ (tables_1_5 ++ tables_1_6)))) from (List.mem_append_left _ h))
theorem tb_2 : ∀ w ∈ tables_1_2, w ∈ lw_tbl := fun _ h => List.mem_append_right _ (show _ ∈ tables_1_1 ++ (tables_1_2 ++ (tables_1_3 ++ (tables_1_4 ++ (tables_1_5 ++ tables_1_6)))) from (List.mem_append_right _ (List.mem_append_left _ h)))
theorem tb_3 : ∀ w ∈ tables_1_3, w ∈ lw_tbl := fun _ h => List.mem_append_right _ (show _ ∈ tables_1_1 ++ (tables_1_2 ++ (tables_1_3 ++ (tables_1_4 ++ (tables_1_5 ++ tables_1_6)))) from (List.mem_append_right _ (List.mem_append_right _ (List.mem_append_left _ h))))
theorem tb_4 : ∀ w ∈ tables_1_4, w ∈ lw_tbl := fun _ h => List.mem_append_right _ (show _ ∈ tables_1_1 ++ (tables_1_2 ++ (tables_1_3 ++ (tables_1_4 ++ (tables_1_5 ++ tables_1_6)))) from (List.mem_append_right _ (List.mem_append_right _ (List.mem_append_right _ (List.mem_append_left _ h)))))
theorem tb_5 : ∀ w ∈ tables_1_5, w ∈ lw_tbl := fun _ h => List.mem_append_right _ (show _ ∈ tables_1_1 ++ (tables_1_2 ++ (tables_1_3 ++ (tables_1_4 ++ (tables_1_5 ++ tables_1_6)))) from (List.mem_append_right _ (List.mem_append_right _ (List.mem_append_right _ (List.mem_append_right _ (List.mem_append_left _ h))))))
theorem tb_6 : ∀ w ∈ tables_1_6, w ∈ lw_tbl := fun _ h => List.mem_append_right _ (show _ ∈ tables_1_1 ++ (tables_1_2 ++ (tables_1_3 ++ (tables_1_4 ++ (tables_1_5 ++ tables_1_6)))) from (List.mem_append_right _ (List.mem_append_right _ (List.mem_append_right _ (List.mem_append_right _ (List.mem_append_right _ h))))))
set_option maxRecDepth 100000 in
theorem wsin_wsL_law_r1 : ∀ w ∈ wsL_law_r1, w ∈ lw_tbl := List.forall_mem_cons.mpr ⟨tb_1 _ (List.mem_of_getElem? (i := 17) rfl), List.forall_mem_cons.mpr ⟨tb_1 _ (List.mem_of_getElem? (i := 18) rfl), List.forall_mem_cons.mpr ⟨tb_1 _ (List.mem_of_getElem? (i := 1) rfl), List.forall_mem_cons.mpr ⟨tb_4 _ (List.mem_of_getElem? (i := 179) rfl), List.forall_mem_cons.mpr ⟨tb_4 _ (List.mem_of_getElem? (i := 180) rfl), List.forall_mem_cons.mpr ⟨tb_1 _ (List.mem_of_getElem? (i := 10) rfl), List.forall_mem_cons.mpr ⟨tb_1 _ (List.mem_of_getElem? (i := 19) rfl), List.forall_mem_cons.mpr ⟨tb_1 _ (List.mem_of_getElem? (i := 20) rfl), List.forall_mem_cons.mpr ⟨tb_1 _ (List.mem_of_getElem? (i := 21) rfl), List.forall_mem_cons.mpr ⟨tb_1 _ (List.mem_of_getElem? (i := 22) rfl), List.forall_mem_cons.mpr ⟨tb_1 _ (List.mem_of_getElem? (i := 23) rfl), List.forall_mem_cons.mpr ⟨tb_1 _ (List.mem_of_getElem? (i := 24) rfl), List.forall_mem_cons.mpr ⟨tb_1 _ (List.mem_of_getElem? (i := 25) rfl), List.forall_mem_cons.mpr ⟨tb_1 _ (List.mem_of_getElem? (i := 26) rfl), List.forall_mem_cons.mpr ⟨tb_1 _ (List.mem_of_getElem? (i := 2) rfl), List.forall_mem_cons.mpr ⟨tb_2 _ (List.mem_of_getElem? (i := 64) rfl), List.forall_mem_cons.mpr ⟨tb_2 _ (List.mem_of_getElem? (i := 65) rfl), List.forall_mem_cons.mpr ⟨tb_1 _ (List.mem_of_getElem? (i := 164) rfl), List.forall_mem_cons.mpr ⟨tb_1 _ (List.mem_of_getElem? (i := 165) rfl), List.forall_mem_cons.mpr ⟨tb_1 _ (List.mem_of_getElem? (i := 6) rfl), List.forall_mem_cons.mpr ⟨tb_2 _ (List.mem_of_getElem? (i := 66) rfl), List.forall_mem_cons.mpr ⟨tb_2 _ (List.mem_of_getElem? (i := 2) rfl), List.forall_mem_cons.mpr ⟨tb_2 _ (List.mem_of_getElem? (i := 3) rfl), List.forall_mem_cons.mpr ⟨tb_1 _ (List.mem_of_getElem? (i := 8) rfl), (fun _ h => absurd h List.not_mem_nil)⟩⟩⟩⟩⟩⟩⟩⟩⟩⟩⟩⟩⟩⟩⟩⟩⟩⟩⟩⟩⟩⟩⟩⟩
set_option maxRecDepth 100000 in
theorem wsin_wsL_law_r2 : ∀ w ∈ wsL_law_r2, w ∈ lw_tbl := List.forall_mem_cons.mpr ⟨tb_2 _ (List.mem_of_getElem? (i := 67) rfl), List.forall_mem_cons.mpr ⟨tb_2 _ (List.mem_of_getElem? (i := 19) rfl), List.forall_mem_cons.mpr ⟨tb_2 _ (List.mem_of_getElem? (i := 20) rfl), List.forall_mem_cons.mpr ⟨tb_1 _ (List.mem_of_getElem? (i := 9) rfl), List.forall_mem_cons.mpr ⟨tb_2 _ (List.mem_of_getElem? (i := 68) rfl), List.forall_mem_cons.mpr ⟨tb_2 _ (List.mem_of_getElem? (i := 69) rfl), List.forall_mem_cons.mpr ⟨tb_1 _ (List.mem_of_getElem? (i := 28) rfl), List.forall_mem_cons.mpr ⟨tb_1 _ (List.mem_of_getElem? (i := 29) rfl), List.forall_mem_cons.mpr ⟨tb_1 _ (List.mem_of_getElem? (i := 30) rfl), List.forall_mem_cons.mpr ⟨tb_1 _ (List.mem_of_getElem? (i := 31) rfl), List.forall_mem_cons.mpr ⟨tb_1 _ (List.mem_of_getElem? (i := 32) rfl), List.forall_mem_cons.mpr ⟨tb_1 _ (List.mem_of_getElem? (i := 3) rfl), List.forall_mem_cons.mpr ⟨tb_1 _ (List.mem_of_getElem? (i := 149) rfl), List.forall_mem_cons.mpr ⟨tb_1 _ (List.mem_of_getElem? (i := 53) rfl), List.forall_mem_cons.mpr ⟨tb_1 _ (List.mem_of_getElem? (i := 54) rfl), List.forall_mem_cons.mpr ⟨tb_1 _ (List.mem_of_getElem? (i := 4) rfl), List.forall_mem_cons.mpr ⟨tb_1 _ (List.mem_of_getElem? (i := 152) rfl), List.forall_mem_cons.mpr ⟨tb_1 _ (List.mem_of_getElem? (i := 132) rfl), List.forall_mem_cons.mpr ⟨tb_1 _ (List.mem_of_getElem? (i := 133) rfl), List.forall_mem_cons.mpr ⟨tb_1 _ (List.mem_of_getElem? (i := 5) rfl), List.forall_mem_cons.mpr ⟨tb_1 _ (List.mem_of_getElem? (i := 155) rfl), List.forall_mem_cons.mpr ⟨tb_1 _ (List.mem_of_getElem? (i := 34) rfl), List.forall_mem_cons.mpr ⟨tb_1 _ (List.mem_of_getElem? (i := 35) rfl), List.forall_mem_cons.mpr ⟨tb_1 _ (List.mem_of_getElem? (i := 36) rfl), (fun _ h => absurd h List.not_mem_nil)⟩⟩⟩⟩⟩⟩⟩⟩⟩⟩⟩⟩⟩⟩⟩⟩⟩⟩⟩⟩⟩⟩⟩⟩
set_option maxRecDepth 100000 in
theorem wsin_wsL_law_r3 : ∀ w ∈ wsL_law_r3, w ∈ lw_tbl := List.forall_mem_cons.mpr ⟨tb_1 _ (List.mem_of_getElem? (i := 52) rfl), List.forall_mem_cons.mpr ⟨tb_1 _ (List.mem_of_getElem? (i := 41) rfl), List.forall_mem_cons.mpr ⟨tb_1 _ (List.mem_of_getElem? (i := 43) rfl), List.forall_mem_cons.mpr ⟨tb_1 _ (List.mem_of_getElem? (i := 55) rfl), List.forall_mem_cons.mpr ⟨tb_1 _ (List.mem_of_getElem? (i := 56) rfl), List.forall_mem_cons.mpr ⟨tb_1 _ (List.mem_of_getElem? (i := 57) rfl), List.forall_mem_cons.mpr ⟨tb_1 _ (List.mem_of_getElem? (i := 58) rfl), List.forall_mem_cons.mpr ⟨tb_1 _ (List.mem_of_getElem? (i := 65) rfl), List.forall_mem_cons.mpr ⟨tb_1 _ (List.mem_of_getElem? (i := 66) rfl), List.forall_mem_cons.mpr ⟨tb_1 _ (List.mem_of_getElem? (i := 67) rfl), List.forall_mem_cons.mpr ⟨tb_1 _ (List.mem_of_getElem? (i := 71) rfl), List.forall_mem_cons.mpr ⟨tb_1 _ (List.mem_of_getElem? (i := 74) rfl), List.forall_mem_cons.mpr ⟨tb_1 _ (List.mem_of_getElem? (i := 77) rfl), List.forall_mem_cons.mpr ⟨tb_1 _ (List.mem_of_getElem? (i := 80) rfl), List.forall_mem_cons.mpr ⟨tb_1 _ (List.mem_of_getElem? (i := 82) rfl), List.forall_mem_cons.mpr ⟨tb_1 _ (List.mem_of_getElem? (i := 84) rfl), List.forall_mem_cons.mpr ⟨tb_1 _ (List.mem_of_getElem? (i := 87) rfl), List.forall_mem_cons.mpr ⟨tb_1 _ (List.mem_of_getElem? (i := 90) rfl), List.forall_mem_cons.mpr ⟨tb_1 _ (List.mem_of_getElem? (i := 93) rfl), List.forall_mem_cons.mpr ⟨tb_1 _ (List.mem_of_getElem? (i := 131) rfl), List.forall_mem_cons.mpr ⟨tb_1 _ (List.mem_of_getElem? (i := 95) rfl), List.forall_mem_cons.mpr ⟨tb_1 _ (List.mem_of_getElem? (i := 97) rfl), List.forall_mem_cons.mpr ⟨tb_1 _ (List.mem_of_getElem? (i := 59) rfl), List.forall_mem_cons.mpr ⟨tb_1 _ (List.mem_of_getElem? (i := 60) rfl), (fun _ h => absurd h List.not_mem_nil)⟩⟩⟩⟩⟩⟩⟩⟩⟩⟩⟩⟩⟩⟩⟩⟩⟩⟩⟩⟩⟩⟩⟩⟩
set_option maxRecDepth 100000 in
theorem wsin_wsL_law_r4 : ∀ w ∈ wsL_law_r4, w ∈ lw_tbl := List.forall_mem_cons.mpr ⟨tb_1 _ (List.mem_of_getElem? (i := 61) rfl), List.forall_mem_cons.mpr ⟨tb_1 _ (List.mem_of_getElem? (i := 62) rfl), List.forall_mem_cons.mpr ⟨tb_1 _ (List.mem_of_getElem? (i := 63) rfl), List.forall_mem_cons.mpr ⟨tb_1 _ (List.mem_of_getElem? (i := 68) rfl), List.forall_mem_cons.mpr ⟨tb_1 _ (List.mem_of_getElem? (i := 135) rfl), List.forall_mem_cons.mpr ⟨tb_1 _ (List.mem_of_getElem? (i := 136) rfl), List.forall_mem_cons.mpr ⟨tb_1 _ (List.mem_of_getElem? (i := 137) rfl), List.forall_mem_cons.mpr ⟨tb_1 _ (List.mem_of_getElem? (i := 141) rfl), List.forall_mem_cons.mpr ⟨tb_1 _ (List.mem_of_getElem? (i := 166) rfl), List.forall_mem_cons.mpr ⟨tb_1 _ (List.mem_of_getElem? (i := 167) rfl), List.forall_mem_cons.mpr ⟨tb_1 _ (List.mem_of_getElem? (i := 168) rfl), List.forall_mem_cons.mpr ⟨tb_1 _ (List.mem_of_getElem? (i := 169) rfl), List.forall_mem_cons.mpr ⟨tb_1 _ (List.mem_of_getElem? (i := 170) rfl), List.forall_mem_cons.mpr ⟨tb_1 _ (List.mem_of_getElem? (i := 196) rfl), List.forall_mem_cons.mpr ⟨tb_1 _ (List.mem_of_getElem? (i := 200) rfl), List.forall_mem_cons.mpr ⟨tb_1 _ (List.mem_of_getElem? (i := 201) rfl), List.forall_mem_cons.mpr ⟨tb_1 _ (List.mem_of_getElem? (i := 202) rfl), List.forall_mem_cons.mpr ⟨tb_1 _ (List.mem_of_getElem? (i := 210) rfl), List.forall_mem_cons.mpr ⟨tb_1 _ (List.mem_of_getElem? (i := 194) rfl), List.forall_mem_cons.mpr ⟨tb_1 _ (List.mem_of_getElem? (i := 195) rfl), List.forall_mem_cons.mpr ⟨tb_1 _ (List.mem_of_getElem? (i := 172) rfl), List.forall_mem_cons.mpr ⟨tb_1 _ (List.mem_of_getElem? (i := 7) rfl), List.forall_mem_cons.mpr ⟨tb_1 _ (List.mem_of_getElem? (i := 174) rfl), List.forall_mem_cons.mpr ⟨tb_1 _ (List.mem_of_getElem? (i := 175) rfl), (fun _ h => absurd h List.not_mem_nil)⟩⟩⟩⟩⟩⟩⟩⟩⟩⟩⟩⟩⟩⟩⟩⟩⟩⟩⟩⟩⟩⟩⟩⟩
set_option maxRecDepth 100000 in
theorem wsin_wsL_law_r5 : ∀ w ∈ wsL_law_r5, w ∈ lw_tbl := List.forall_mem_cons.mpr ⟨tb_1 _ (List.mem_of_getElem? (i := 176) rfl), List.forall_mem_cons.mpr ⟨tb_1 _ (List.mem_of_getElem? (i := 179) rfl), List.forall_mem_cons.mpr ⟨tb_1 _ (List.mem_of_getElem? (i := 182) rfl), List.forall_mem_cons.mpr ⟨tb_2 _ (List.mem_of_getElem? (i := 5) rfl), List.forall_mem_cons.mpr ⟨tb_2 _ (List.mem_of_getElem? (i := 6) rfl), List.forall_mem_cons.mpr ⟨tb_2 _ (List.mem_of_getElem? (i := 7) rfl), List.forall_mem_cons.mpr ⟨tb_2 _ (List.mem_of_getElem? (i := 18) rfl), List.forall_mem_cons.mpr ⟨tb_2 _ (List.mem_of_getElem? (i := 11) rfl), List.forall_mem_cons.mpr ⟨tb_2 _ (List.mem_of_getElem? (i := 21) rfl), List.forall_mem_cons.mpr ⟨tb_2 _ (List.mem_of_getElem? (i := 22) rfl), List.forall_mem_cons.mpr ⟨tb_2 _ (List.mem_of_getElem? (i := 23) rfl), List.forall_mem_cons.mpr ⟨tb_2 _ (List.mem_of_getElem? (i := 24) rfl), List.forall_mem_cons.mpr ⟨tb_2 _ (List.mem_of_getElem? (i := 27) rfl), List.forall_mem_cons.mpr ⟨tb_2 _ (List.mem_of_getElem? (i := 29) rfl), List.forall_mem_cons.mpr ⟨tb_2 _ (List.mem_of_getElem? (i := 31) rfl), List.forall_mem_cons.mpr ⟨tb_2 _ (List.mem_of_getElem? (i := 33) rfl), List.forall_mem_cons.mpr ⟨tb_2 _ (List.mem_of_getElem? (i := 35) rfl), List.forall_mem_cons.mpr ⟨tb_2 _ (List.mem_of_getElem? (i := 37) rfl), List.forall_mem_cons.mpr ⟨tb_2 _ (List.mem_of_getElem? (i := 39) rfl), List.forall_mem_cons.mpr ⟨tb_4 _ (List.mem_of_getElem? (i := 181) rfl), List.forall_mem_cons.mpr ⟨tb_4 _ (List.mem_of_getElem? (i := 182) rfl), List.forall_mem_cons.mpr ⟨tb_4 _ (List.mem_of_getElem? (i := 183) rfl), List.forall_mem_cons.mpr ⟨tb_4 _ (List.mem_of_getElem? (i := 184) rfl), List.forall_mem_cons.mpr ⟨tb_4 _ (List.mem_of_getElem? (i := 186) rfl), (fun _ h => absurd h List.not_mem_nil)⟩⟩⟩⟩⟩⟩⟩⟩⟩⟩⟩⟩⟩⟩⟩⟩⟩⟩⟩⟩⟩⟩⟩⟩
set_option maxRecDepth 100000 in
theorem wsin_wsL_law_r6 : ∀ w ∈ wsL_law_r6, w ∈ lw_tbl := List.forall_mem_cons.mpr ⟨tb_4 _ (List.mem_of_getElem? (i := 187) rfl), List.forall_mem_cons.mpr ⟨tb_4 _ (List.mem_of_getElem? (i := 189) rfl), List.forall_mem_cons.mpr ⟨tb_4 _ (List.mem_of_getElem? (i := 190) rfl), List.forall_mem_cons.mpr ⟨tb_4 _ (List.mem_of_getElem? (i := 191) rfl), List.forall_mem_cons.mpr ⟨tb_4 _ (List.mem_of_getElem? (i := 192) rfl), List.forall_mem_cons.mpr ⟨tb_4 _ (List.mem_of_getElem? (i := 193) rfl), List.forall_mem_cons.mpr ⟨tb_4 _ (List.mem_of_getElem? (i := 194) rfl), List.forall_mem_cons.mpr ⟨tb_4 _ (List.mem_of_getElem? (i := 195) rfl), List.forall_mem_cons.mpr ⟨tb_4 _ (List.mem_of_getElem? (i := 196) rfl), List.forall_mem_cons.mpr ⟨tb_4 _ (List.mem_of_getElem? (i := 198) rfl), List.forall_mem_cons.mpr ⟨tb_4 _ (List.mem_of_getElem? (i := 199) rfl), List.forall_mem_cons.mpr ⟨tb_4 _ (List.mem_of_getElem? (i := 200) rfl), List.forall_mem_cons.mpr ⟨tb_4 _ (List.mem_of_getElem? (i := 202) rfl), List.forall_mem_cons.mpr ⟨tb_4 _ (List.mem_of_getElem? (i := 203) rfl), List.forall_mem_cons.mpr ⟨tb_4 _ (List.mem_of_getElem? (i := 204) rfl), List.forall_mem_cons.mpr ⟨tb_4 _ (List.mem_of_getElem? (i := 205) rfl), List.forall_mem_cons.mpr ⟨tb_4 _ (List.mem_of_getElem? (i := 206) rfl), List.forall_mem_cons.mpr ⟨tb_4 _ (List.mem_of_getElem? (i := 207) rfl), List.forall_mem_cons.mpr ⟨tb_4 _ (List.mem_of_getElem? (i := 208) rfl), List.forall_mem_cons.mpr ⟨tb_4 _ (List.mem_of_getElem? (i := 216) rfl), List.forall_mem_cons.mpr ⟨tb_4 _ (List.mem_of_getElem? (i := 217) rfl), List.forall_mem_cons.mpr ⟨tb_4 _ (List.mem_of_getElem? (i := 218) rfl), List.forall_mem_cons.mpr ⟨tb_4 _ (List.mem_of_getElem? (i := 219) rfl), List.forall_mem_cons.mpr ⟨tb_4 _ (List.mem_of_getElem? (i := 220) rfl), (fun _ h => absurd h List.not_mem_nil)⟩⟩⟩⟩⟩⟩⟩⟩⟩⟩⟩⟩⟩⟩⟩⟩⟩⟩⟩⟩⟩⟩⟩⟩
set_option maxRecDepth 100000 in
theorem wsin_wsL_law_r7 : ∀ w ∈ wsL_law_r7, w ∈ lw_tbl := List.forall_mem_cons.mpr ⟨tb_4 _ (List.mem_of_getElem? (i := 225) rfl), List.forall_mem_cons.mpr ⟨tb_4 _ (List.mem_of_getElem? (i := 227) rfl), List.forall_mem_cons.mpr ⟨tb_2 _ (List.mem_of_getElem? (i := 83) rfl), List.forall_mem_cons.mpr ⟨tb_2 _ (List.mem_of_getElem? (i := 84) rfl), List.forall_mem_cons.mpr ⟨tb_2 _ (List.mem_of_getElem? (i := 85) rfl), List.forall_mem_cons.mpr ⟨tb_2 _ (List.mem_of_getElem? (i := 86) rfl), List.forall_mem_cons.mpr ⟨tb_2 _ (List.mem_of_getElem? (i := 87) rfl), List.forall_mem_cons.mpr ⟨tb_2 _ (List.mem_of_getElem? (i := 88) rfl), List.forall_mem_cons.mpr ⟨tb_2 _ (List.mem_of_getElem? (i := 89) rfl), List.forall_mem_cons.mpr ⟨tb_2 _ (List.mem_of_getElem? (i := 90) rfl), List.forall_mem_cons.mpr ⟨tb_2 _ (List.mem_of_getElem? (i := 92) rfl), List.forall_mem_cons.mpr ⟨tb_0 _ (List.mem_of_getElem? (i := 0) rfl), List.forall_mem_cons.mpr ⟨tb_2 _ (List.mem_of_getElem? (i := 93) rfl), List.forall_mem_cons.mpr ⟨tb_2 _ (List.mem_of_getElem? (i := 94) rfl), List.forall_mem_cons.mpr ⟨tb_2 _ (List.mem_of_getElem? (i := 95) rfl), List.forall_mem_cons.mpr ⟨tb_2 _ (List.mem_of_getElem? (i := 96) rfl), List.forall_mem_cons.mpr ⟨tb_2 _ (List.mem_of_getElem? (i := 97) rfl), List.forall_mem_cons.mpr ⟨tb_1 _ (List.mem_of_getElem? (i := 37) rfl), List.forall_mem_cons.mpr ⟨tb_2 _ (List.mem_of_getElem? (i := 98) rfl), List.forall_mem_cons.mpr ⟨tb_2 _ (List.mem_of_getElem? (i := 99) rfl), List.forall_mem_cons.mpr ⟨tb_2 _ (List.mem_of_getElem? (i := 100) rfl), List.forall_mem_cons.mpr ⟨tb_2 _ (List.mem_of_getElem? (i := 101) rfl), List.forall_mem_cons.mpr ⟨tb_1 _ (List.mem_of_getElem? (i := 138) rfl), List.forall_mem_cons.mpr ⟨tb_5 _ (List.mem_of_getElem? (i := 78) rfl), (fun _ h => absurd h List.not_mem_nil)⟩⟩⟩⟩⟩⟩⟩⟩⟩⟩⟩⟩⟩⟩⟩⟩⟩⟩⟩⟩⟩⟩⟩⟩
set_option maxRecDepth 100000 in
theorem wsin_wsL_law_r8 : ∀ w ∈ wsL_law_r8, w ∈ lw_tbl := List.forall_mem_cons.mpr ⟨tb_5 _ (List.mem_of_getElem? (i := 79) rfl), List.forall_mem_cons.mpr ⟨tb_5 _ (List.mem_of_getElem? (i := 80) rfl), List.forall_mem_cons.mpr ⟨tb_5 _ (List.mem_of_getElem? (i := 81) rfl), List.forall_mem_cons.mpr ⟨tb_5 _ (List.mem_of_getElem? (i := 82) rfl), List.forall_mem_cons.mpr ⟨tb_5 _ (List.mem_of_getElem? (i := 83) rfl), List.forall_mem_cons.mpr ⟨tb_5 _ (List.mem_of_getElem? (i := 84) rfl), List.forall_mem_cons.mpr ⟨tb_5 _ (List.mem_of_getElem? (i := 85) rfl), List.forall_mem_cons.mpr ⟨tb_5 _ (List.mem_of_getElem? (i := 87) rfl), List.forall_mem_cons.mpr ⟨tb_0 _ (List.mem_of_getElem? (i := 29) rfl), List.forall_mem_cons.mpr ⟨tb_5 _ (List.mem_of_getElem? (i := 88) rfl), List.forall_mem_cons.mpr ⟨tb_4 _ (List.mem_of_getElem? (i := 185) rfl), List.forall_mem_cons.mpr ⟨tb_4 _ (List.mem_of_getElem? (i := 201) rfl), List.forall_mem_cons.mpr ⟨tb_2 _ (List.mem_of_getElem? (i := 102) rfl), List.forall_mem_cons.mpr ⟨tb_2 _ (List.mem_of_getElem? (i := 103) rfl), List.forall_mem_cons.mpr ⟨tb_2 _ (List.mem_of_getElem? (i := 104) rfl), List.forall_mem_cons.mpr ⟨tb_2 _ (List.mem_of_getElem? (i := 105) rfl), List.forall_mem_cons.mpr ⟨tb_5 _ (List.mem_of_getElem? (i := 89) rfl), List.forall_mem_cons.mpr ⟨tb_5 _ (List.mem_of_getElem? (i := 90) rfl), List.forall_mem_cons.mpr ⟨tb_5 _ (List.mem_of_getElem? (i := 91) rfl), List.forall_mem_cons.mpr ⟨tb_5 _ (List.mem_of_getElem? (i := 92) rfl), List.forall_mem_cons.mpr ⟨tb_2 _ (List.mem_of_getElem? (i := 106) rfl), List.forall_mem_cons.mpr ⟨tb_2 _ (List.mem_of_getElem? (i := 107) rfl), List.forall_mem_cons.mpr ⟨tb_2 _ (List.mem_of_getElem? (i := 108) rfl), List.forall_mem_cons.mpr ⟨tb_2 _ (List.mem_of_getElem? (i := 109) rfl), (fun _ h => absurd h List.not_mem_nil)⟩⟩⟩⟩⟩⟩⟩⟩⟩⟩⟩⟩⟩⟩⟩⟩⟩⟩⟩⟩⟩⟩⟩⟩
set_option maxRecDepth 100000 in
theorem wsin_wsL_law_r9 : ∀ w ∈ wsL_law_r9, w ∈ lw_tbl := List.forall_mem_cons.mpr ⟨tb_5 _ (List.mem_of_getElem? (i := 93) rfl), List.forall_mem_cons.mpr ⟨tb_5 _ (List.mem_of_getElem? (i := 94) rfl), List.forall_mem_cons.mpr ⟨tb_5 _ (List.mem_of_getElem? (i := 95) rfl), List.forall_mem_cons.mpr ⟨tb_5 _ (List.mem_of_getElem? (i := 96) rfl), List.forall_mem_cons.mpr ⟨tb_2 _ (List.mem_of_getElem? (i := 110) rfl), List.forall_mem_cons.mpr ⟨tb_2 _ (List.mem_of_getElem? (i := 111) rfl), List.forall_mem_cons.mpr ⟨tb_2 _ (List.mem_of_getElem? (i := 112) rfl), List.forall_mem_cons.mpr ⟨tb_2 _ (List.mem_of_getElem? (i := 113) rfl), List.forall_mem_cons.mpr ⟨tb_5 _ (List.mem_of_getElem? (i := 97) rfl), List.forall_mem_cons.mpr ⟨tb_5 _ (List.mem_of_getElem? (i := 98) rfl), List.forall_mem_cons.mpr ⟨tb_5 _ (List.mem_of_getElem? (i := 99) rfl), List.forall_mem_cons.mpr ⟨tb_5 _ (List.mem_of_getElem? (i := 100) rfl), List.forall_mem_cons.mpr ⟨tb_2 _ (List.mem_of_getElem? (i := 114) rfl), List.forall_mem_cons.mpr ⟨tb_2 _ (List.mem_of_getElem? (i := 115) rfl), List.forall_mem_cons.mpr ⟨tb_2 _ (List.mem_of_getElem? (i := 116) rfl), List.forall_mem_cons.mpr ⟨tb_2 _ (List.mem_of_getElem? (i := 117) rfl), List.forall_mem_cons.mpr ⟨tb_5 _ (List.mem_of_getElem? (i := 101) rfl), List.forall_mem_cons.mpr ⟨tb_5 _ (List.mem_of_getElem? (i := 102) rfl), List.forall_mem_cons.mpr ⟨tb_5 _ (List.mem_of_getElem? (i := 103) rfl), List.forall_mem_cons.mpr ⟨tb_5 _ (List.mem_of_getElem? (i := 104) rfl), List.forall_mem_cons.mpr ⟨tb_2 _ (List.mem_of_getElem? (i := 118) rfl), List.forall_mem_cons.mpr ⟨tb_2 _ (List.mem_of_getElem? (i := 119) rfl), List.forall_mem_cons.mpr ⟨tb_2 _ (List.mem_of_getElem? (i := 120) rfl), List.forall_mem_cons.mpr ⟨tb_2 _ (List.mem_of_getElem? (i := 121) rfl), (fun _ h => absurd h List.not_mem_nil)⟩⟩⟩⟩⟩⟩⟩⟩⟩⟩⟩⟩⟩⟩⟩⟩⟩⟩⟩⟩⟩⟩⟩⟩
set_option maxRecDepth 100000 in
theorem wsin_wsL_law_r10 : ∀ w ∈ wsL_law_r10, w ∈ lw_tbl := List.forall_mem_cons.mpr ⟨tb_2 _ (List.mem_of_getElem? (i := 122) rfl), List.forall_mem_cons.mpr ⟨tb_2 _ (List.mem_of_getElem? (i := 123) rfl), List.forall_mem_cons.mpr ⟨tb_2 _ (List.mem_of_getElem? (i := 124) rfl), List.forall_mem_cons.mpr ⟨tb_2 _ (List.mem_of_getElem? (i := 125) rfl), List.forall_mem_cons.mpr ⟨tb_5 _ (List.mem_of_getElem? (i := 105) rfl), List.forall_mem_cons.mpr ⟨tb_5 _ (List.mem_of_getElem? (i := 106) rfl), List.forall_mem_cons.mpr ⟨tb_5 _ (List.mem_of_getElem? (i := 107) rfl), List.forall_mem_cons.mpr ⟨tb_5 _ (List.mem_of_getElem? (i := 108) rfl), List.forall_mem_cons.mpr ⟨tb_5 _ (List.mem_of_getElem? (i := 109) rfl), List.forall_mem_cons.mpr ⟨tb_5 _ (List.mem_of_getElem? (i := 111) rfl), List.forall_mem_cons.mpr ⟨tb_0 _ (List.mem_of_getElem? (i := 30) rfl), List.forall_mem_cons.mpr ⟨tb_5 _ (List.mem_of_getElem? (i := 112) rfl), List.forall_mem_cons.mpr ⟨tb_2 _ (List.mem_of_getElem? (i := 127) rfl), List.forall_mem_cons.mpr ⟨tb_2 _ (List.mem_of_getElem? (i := 128) rfl), List.forall_mem_cons.mpr ⟨tb_2 _ (List.mem_of_getElem? (i := 129) rfl), List.forall_mem_cons.mpr ⟨tb_2 _ (List.mem_of_getElem? (i := 130) rfl), List.forall_mem_cons.mpr ⟨tb_2 _ (List.mem_of_getElem? (i := 131) rfl), List.forall_mem_cons.mpr ⟨tb_2 _ (List.mem_of_getElem? (i := 132) rfl), List.forall_mem_cons.mpr ⟨tb_2 _ (List.mem_of_getElem? (i := 133) rfl), List.forall_mem_cons.mpr ⟨tb_2 _ (List.mem_of_getElem? (i := 134) rfl), List.forall_mem_cons.mpr ⟨tb_2 _ (List.mem_of_getElem? (i := 135) rfl), List.forall_mem_cons.mpr ⟨tb_2 _ (List.mem_of_getElem? (i := 136) rfl), List.forall_mem_cons.mpr ⟨tb_5 _ (List.mem_of_getElem? (i := 113) rfl), List.forall_mem_cons.mpr ⟨tb_5 _ (List.mem_of_getElem? (i := 114) rfl), (fun _ h => absurd h List.not_mem_nil)⟩⟩⟩⟩⟩⟩⟩⟩⟩⟩⟩⟩⟩⟩⟩⟩⟩⟩⟩⟩⟩⟩⟩⟩
set_option maxRecDepth 100000 in
theorem wsin_wsL_law_r11 : ∀ w ∈ wsL_law_r11, w ∈ lw_tbl := List.forall_mem_cons.mpr ⟨tb_5 _ (List.mem_of_getElem? (i := 115) rfl), List.forall_mem_cons.mpr ⟨tb_5 _ (List.mem_of_getElem? (i := 116) rfl), List.forall_mem_cons.mpr ⟨tb_4 _ (List.mem_of_getElem? (i := 197) rfl), List.forall_mem_cons.mpr ⟨tb_4 _ (List.mem_of_getElem? (i := 188) rfl), List.forall_mem_cons.mpr ⟨tb_2 _ (List.mem_of_getElem? (i := 137) rfl), List.forall_mem_cons.mpr ⟨tb_2 _ (List.mem_of_getElem? (i := 138) rfl), List.forall_mem_cons.mpr ⟨tb_2 _ (List.mem_of_getElem? (i := 139) rfl), List.forall_mem_cons.mpr ⟨tb_2 _ (List.mem_of_getElem? (i := 140) rfl), List.forall_mem_cons.mpr ⟨tb_2 _ (List.mem_of_getElem? (i := 141) rfl), List.forall_mem_cons.mpr ⟨tb_2 _ (List.mem_of_getElem? (i := 143) rfl), List.forall_mem_cons.mpr ⟨tb_0 _ (List.mem_of_getElem? (i := 1) rfl), List.forall_mem_cons.mpr ⟨tb_2 _ (List.mem_of_getElem? (i := 144) rfl), List.forall_mem_cons.mpr ⟨tb_2 _ (List.mem_of_getElem? (i := 145) rfl), List.forall_mem_cons.mpr ⟨tb_2 _ (List.mem_of_getElem? (i := 147) rfl), List.forall_mem_cons.mpr ⟨tb_0 _ (List.mem_of_getElem? (i := 2) rfl), List.forall_mem_cons.mpr ⟨tb_2 _ (List.mem_of_getElem? (i := 148) rfl), List.forall_mem_cons.mpr ⟨tb_2 _ (List.mem_of_getElem? (i := 149) rfl), List.forall_mem_cons.mpr ⟨tb_2 _ (List.mem_of_getElem? (i := 150) rfl), List.forall_mem_cons.mpr ⟨tb_2 _ (List.mem_of_getElem? (i := 151) rfl), List.forall_mem_cons.mpr ⟨tb_2 _ (List.mem_of_getElem? (i := 152) rfl), List.forall_mem_cons.mpr ⟨tb_2 _ (List.mem_of_getElem? (i := 153) rfl), List.forall_mem_cons.mpr ⟨tb_2 _ (List.mem_of_getElem? (i := 154) rfl), List.forall_mem_cons.mpr ⟨tb_2 _ (List.mem_of_getElem? (i := 155) rfl), List.forall_mem_cons.mpr ⟨tb_2 _ (List.mem_of_getElem? (i := 156) rfl), (fun _ h => absurd h List.not_mem_nil)⟩⟩⟩⟩⟩⟩⟩⟩⟩⟩⟩⟩⟩⟩⟩⟩⟩⟩⟩⟩⟩⟩⟩⟩
set_option maxRecDepth 100000 in
theorem wsin_wsL_law_r12 : ∀ w ∈ wsL_law_r12, w ∈ lw_tbl := List.forall_mem_cons.mpr ⟨tb_2 _ (List.mem_of_getElem? (i := 157) rfl), List.forall_mem_cons.mpr ⟨tb_2 _ (List.mem_of_getElem? (i := 158) rfl), List.forall_mem_cons.mpr ⟨tb_2 _ (List.mem_of_getElem? (i := 159) rfl), List.forall_mem_cons.mpr ⟨tb_2 _ (List.mem_of_getElem? (i := 161) rfl), List.forall_mem_cons.mpr ⟨tb_0 _ (List.mem_of_getElem? (i := 3) rfl), List.forall_mem_cons.mpr ⟨tb_2 _ (List.mem_of_getElem? (i := 162) rfl), List.forall_mem_cons.mpr ⟨tb_5 _ (List.mem_of_getElem? (i := 117) rfl), List.forall_mem_cons.mpr ⟨tb_5 _ (List.mem_of_getElem? (i := 118) rfl), List.forall_mem_cons.mpr ⟨tb_5 _ (List.mem_of_getElem? (i := 119) rfl), List.forall_mem_cons.mpr ⟨tb_5 _ (List.mem_of_getElem? (i := 120) rfl), List.forall_mem_cons.mpr ⟨tb_5 _ (List.mem_of_getElem? (i := 121) rfl), List.forall_mem_cons.mpr ⟨tb_5 _ (List.mem_of_getElem? (i := 123) rfl), List.forall_mem_cons.mpr ⟨tb_0 _ (List.mem_of_getElem? (i := 31) rfl), List.forall_mem_cons.mpr ⟨tb_5 _ (List.mem_of_getElem? (i := 124) rfl), List.forall_mem_cons.mpr ⟨tb_5 _ (List.mem_of_getElem? (i := 125) rfl), List.forall_mem_cons.mpr ⟨tb_5 _ (List.mem_of_getElem? (i := 126) rfl), List.forall_mem_cons.mpr ⟨tb_5 _ (List.mem_of_getElem? (i := 127) rfl), List.forall_mem_cons.mpr ⟨tb_5 _ (List.mem_of_getElem? (i := 128) rfl), List.forall_mem_cons.mpr ⟨tb_5 _ (List.mem_of_getElem? (i := 129) rfl), List.forall_mem_cons.mpr ⟨tb_5 _ (List.mem_of_getElem? (i := 130) rfl), List.forall_mem_cons.mpr ⟨tb_5 _ (List.mem_of_getElem? (i := 131) rfl), List.forall_mem_cons.mpr ⟨tb_5 _ (List.mem_of_getElem? (i := 132) rfl), List.forall_mem_cons.mpr ⟨tb_5 _ (List.mem_of_getElem? (i := 133) rfl), List.forall_mem_cons.mpr ⟨tb_5 _ (List.mem_of_getElem? (i := 134) rfl), (fun _ h => absurd h List.not_mem_nil)⟩⟩⟩⟩⟩⟩⟩⟩⟩⟩⟩⟩⟩⟩⟩⟩⟩⟩⟩⟩⟩⟩⟩⟩
set_option maxRecDepth 100000 in
theorem wsin_wsL_law_r13 : ∀ w ∈ wsL_law_r13, w ∈ lw_tbl := List.forall_mem_cons.mpr ⟨tb_5 _ (List.mem_of_getElem? (i := 136) rfl), List.forall_mem_cons.mpr ⟨tb_0 _ (List.mem_of_getElem? (i := 32) rfl), List.forall_mem_cons.mpr ⟨tb_5 _ (List.mem_of_getElem? (i := 137) rfl), List.forall_mem_cons.mpr ⟨tb_5 _ (List.mem_of_getElem? (i := 138) rfl), List.forall_mem_cons.mpr ⟨tb_5 _ (List.mem_of_getElem? (i := 140) rfl), List.forall_mem_cons.mpr ⟨tb_0 _ (List.mem_of_getElem? (i := 33) rfl), List.forall_mem_cons.mpr ⟨tb_5 _ (List.mem_of_getElem? (i := 141) rfl), List.forall_mem_cons.mpr ⟨tb_5 _ (List.mem_of_getElem? (i := 142) rfl), List.forall_mem_cons.mpr ⟨tb_5 _ (List.mem_of_getElem? (i := 144) rfl), List.forall_mem_cons.mpr ⟨tb_0 _ (List.mem_of_getElem? (i := 34) rfl), List.forall_mem_cons.mpr ⟨tb_5 _ (List.mem_of_getElem? (i := 145) rfl), List.forall_mem_cons.mpr ⟨tb_2 _ (List.mem_of_getElem? (i := 163) rfl), List.forall_mem_cons.mpr ⟨tb_2 _ (List.mem_of_getElem? (i := 164) rfl), List.forall_mem_cons.mpr ⟨tb_2 _ (List.mem_of_getElem? (i := 165) rfl), List.forall_mem_cons.mpr ⟨tb_2 _ (List.mem_of_getElem? (i := 166) rfl), List.forall_mem_cons.mpr ⟨tb_5 _ (List.mem_of_getElem? (i := 146) rfl), List.forall_mem_cons.mpr ⟨tb_5 _ (List.mem_of_getElem? (i := 147) rfl), List.forall_mem_cons.mpr ⟨tb_5 _ (List.mem_of_getElem? (i := 148) rfl), List.forall_mem_cons.mpr ⟨tb_5 _ (List.mem_of_getElem? (i := 149) rfl), List.forall_mem_cons.mpr ⟨tb_2 _ (List.mem_of_getElem? (i := 167) rfl), List.forall_mem_cons.mpr ⟨tb_2 _ (List.mem_of_getElem? (i := 168) rfl), List.forall_mem_cons.mpr ⟨tb_2 _ (List.mem_of_getElem? (i := 169) rfl), List.forall_mem_cons.mpr ⟨tb_2 _ (List.mem_of_getElem? (i := 170) rfl), List.forall_mem_cons.mpr ⟨tb_5 _ (List.mem_of_getElem? (i := 150) rfl), (fun _ h => absurd h List.not_mem_nil)⟩⟩⟩⟩⟩⟩⟩⟩⟩⟩⟩⟩⟩⟩⟩⟩⟩⟩⟩⟩⟩⟩⟩⟩
set_option maxRecDepth 100000 in
theorem wsin_wsL_law_r14 : ∀ w ∈ wsL_law_r14, w ∈ lw_tbl := List.forall_mem_cons.mpr ⟨tb_5 _ (List.mem_of_getElem? (i := 151) rfl), List.forall_mem_cons.mpr ⟨tb_5 _ (List.mem_of_getElem? (i := 152) rfl), List.forall_mem_cons.mpr ⟨tb_5 _ (List.mem_of_getElem? (i := 153) rfl), List.forall_mem_cons.mpr ⟨tb_2 _ (List.mem_of_getElem? (i := 171) rfl), List.forall_mem_cons.mpr ⟨tb_2 _ (List.mem_of_getElem? (i := 172) rfl), List.forall_mem_cons.mpr ⟨tb_2 _ (List.mem_of_getElem? (i := 173) rfl), List.forall_mem_cons.mpr ⟨tb_2 _ (List.mem_of_getElem? (i := 174) rfl), List.forall_mem_cons.mpr ⟨tb_5 _ (List.mem_of_getElem? (i := 154) rfl), List.forall_mem_cons.mpr ⟨tb_5 _ (List.mem_of_getElem? (i := 155) rfl), List.forall_mem_cons.mpr ⟨tb_5 _ (List.mem_of_getElem? (i := 156) rfl), List.forall_mem_cons.mpr ⟨tb_5 _ (List.mem_of_getElem? (i := 157) rfl), List.forall_mem_cons.mpr ⟨tb_2 _ (List.mem_of_getElem? (i := 175) rfl), List.forall_mem_cons.mpr ⟨tb_2 _ (List.mem_of_getElem? (i := 176) rfl), List.forall_mem_cons.mpr ⟨tb_2 _ (List.mem_of_getElem? (i := 177) rfl), List.forall_mem_cons.mpr ⟨tb_2 _ (List.mem_of_getElem? (i := 178) rfl), List.forall_mem_cons.mpr ⟨tb_5 _ (List.mem_of_getElem? (i := 158) rfl), List.forall_mem_cons.mpr ⟨tb_5 _ (List.mem_of_getElem? (i := 159) rfl), List.forall_mem_cons.mpr ⟨tb_5 _ (List.mem_of_getElem? (i := 160) rfl), List.forall_mem_cons.mpr ⟨tb_5 _ (List.mem_of_getElem? (i := 161) rfl), List.forall_mem_cons.mpr ⟨tb_2 _ (List.mem_of_getElem? (i := 179) rfl), List.forall_mem_cons.mpr ⟨tb_2 _ (List.mem_of_getElem? (i := 180) rfl), List.forall_mem_cons.mpr ⟨tb_2 _ (List.mem_of_getElem? (i := 181) rfl), List.forall_mem_cons.mpr ⟨tb_2 _ (List.mem_of_getElem? (i := 182) rfl), List.forall_mem_cons.mpr ⟨tb_5 _ (List.mem_of_getElem? (i := 162) rfl), (fun _ h => absurd h List.not_mem_nil)⟩⟩⟩⟩⟩⟩⟩⟩⟩⟩⟩⟩⟩⟩⟩⟩⟩⟩⟩⟩⟩⟩⟩⟩
set_option maxRecDepth 100000 in
theorem wsin_wsL_law_r15 : ∀ w ∈ wsL_law_r15, w ∈ lw_tbl := List.forall_mem_cons.mpr ⟨tb_5 _ (List.mem_of_getElem? (i := 163) rfl), List.forall_mem_cons.mpr ⟨tb_5 _ (List.mem_of_getElem? (i := 164) rfl), List.forall_mem_cons.mpr ⟨tb_5 _ (List.mem_of_getElem? (i := 165) rfl), List.forall_mem_cons.mpr ⟨tb_2 _ (List.mem_of_getElem? (i := 183) rfl), List.forall_mem_cons.mpr ⟨tb_2 _ (List.mem_of_getElem? (i := 184) rfl), List.forall_mem_cons.mpr ⟨tb_2 _ (List.mem_of_getElem? (i := 185) rfl), List.forall_mem_cons.mpr ⟨tb_2 _ (List.mem_of_getElem? (i := 186) rfl), List.forall_mem_cons.mpr ⟨tb_5 _ (List.mem_of_getElem? (i := 166) rfl), List.forall_mem_cons.mpr ⟨tb_5 _ (List.mem_of_getElem? (i := 167) rfl), List.forall_mem_cons.mpr ⟨tb_5 _ (List.mem_of_getElem? (i := 168) rfl), List.forall_mem_cons.mpr ⟨tb_5 _ (List.mem_of_getElem? (i := 169) rfl), List.forall_mem_cons.mpr ⟨tb_2 _ (List.mem_of_getElem? (i := 187) rfl), List.forall_mem_cons.mpr ⟨tb_2 _ (List.mem_of_getElem? (i := 188) rfl), List.forall_mem_cons.mpr ⟨tb_2 _ (List.mem_of_getElem? (i := 189) rfl), List.forall_mem_cons.mpr ⟨tb_2 _ (List.mem_of_getElem? (i := 190) rfl), List.forall_mem_cons.mpr ⟨tb_5 _ (List.mem_of_getElem? (i := 170) rfl), List.forall_mem_cons.mpr ⟨tb_5 _ (List.mem_of_getElem? (i := 171) rfl), List.forall_mem_cons.mpr ⟨tb_5 _ (List.mem_of_getElem? (i := 172) rfl), List.forall_mem_cons.mpr ⟨tb_5 _ (List.mem_of_getElem? (i := 173) rfl), List.forall_mem_cons.mpr ⟨tb_2 _ (List.mem_of_getElem? (i := 191) rfl), List.forall_mem_cons.mpr ⟨tb_2 _ (List.mem_of_getElem? (i := 192) rfl), List.forall_mem_cons.mpr ⟨tb_2 _ (List.mem_of_getElem? (i := 193) rfl), List.forall_mem_cons.mpr ⟨tb_2 _ (List.mem_of_getElem? (i := 194) rfl), List.forall_mem_cons.mpr ⟨tb_5 _ (List.mem_of_getElem? (i := 174) rfl), (fun _ h => absurd h List.not_mem_nil)⟩⟩⟩⟩⟩⟩⟩⟩⟩⟩⟩⟩⟩⟩⟩⟩⟩⟩⟩⟩⟩⟩⟩⟩
set_option maxRecDepth 100000 in
theorem wsin_wsL_law_r16 : ∀ w ∈ wsL_law_r16, w ∈ lw_tbl := List.forall_mem_cons.mpr ⟨tb_5 _ (List.mem_of_getElem? (i := 175) rfl), List.forall_mem_cons.mpr ⟨tb_5 _ (List.mem_of_getElem? (i := 176) rfl), List.forall_mem_cons.mpr ⟨tb_5 _ (List.mem_of_getElem? (i := 177) rfl), List.forall_mem_cons.mpr ⟨tb_2 _ (List.mem_of_getElem? (i := 195) rfl), List.forall_mem_cons.mpr ⟨tb_2 _ (List.mem_of_getElem? (i := 196) rfl), List.forall_mem_cons.mpr ⟨tb_2 _ (List.mem_of_getElem? (i := 197) rfl), List.forall_mem_cons.mpr ⟨tb_2 _ (List.mem_of_getElem? (i := 198) rfl), List.forall_mem_cons.mpr ⟨tb_5 _ (List.mem_of_getElem? (i := 178) rfl), List.forall_mem_cons.mpr ⟨tb_5 _ (List.mem_of_getElem? (i := 179) rfl), List.forall_mem_cons.mpr ⟨tb_5 _ (List.mem_of_getElem? (i := 180) rfl), List.forall_mem_cons.mpr ⟨tb_5 _ (List.mem_of_getElem? (i := 181) rfl), List.forall_mem_cons.mpr ⟨tb_2 _ (List.mem_of_getElem? (i := 199) rfl), List.forall_mem_cons.mpr ⟨tb_2 _ (List.mem_of_getElem? (i := 200) rfl), List.forall_mem_cons.mpr ⟨tb_2 _ (List.mem_of_getElem? (i := 201) rfl), List.forall_mem_cons.mpr ⟨tb_2 _ (List.mem_of_getElem? (i := 202) rfl), List.forall_mem_cons.mpr ⟨tb_2 _ (List.mem_of_getElem? (i := 203) rfl), List.forall_mem_cons.mpr ⟨tb_2 _ (List.mem_of_getElem? (i := 205) rfl), List.forall_mem_cons.mpr ⟨tb_0 _ (List.mem_of_getElem? (i := 4) rfl), List.forall_mem_cons.mpr ⟨tb_2 _ (List.mem_of_getElem? (i := 206) rfl), List.forall_mem_cons.mpr ⟨tb_2 _ (List.mem_of_getElem? (i := 207) rfl), List.forall_mem_cons.mpr ⟨tb_2 _ (List.mem_of_getElem? (i := 209) rfl), List.forall_mem_cons.mpr ⟨tb_0 _ (List.mem_of_getElem? (i := 5) rfl), List.forall_mem_cons.mpr ⟨tb_2 _ (List.mem_of_getElem? (i := 210) rfl), List.forall_mem_cons.mpr ⟨tb_2 _ (List.mem_of_getElem? (i := 211) rfl), (fun _ h => absurd h List.not_mem_nil)⟩⟩⟩⟩⟩⟩⟩⟩⟩⟩⟩⟩⟩⟩⟩⟩⟩⟩⟩⟩⟩⟩⟩⟩
set_option maxRecDepth 100000 in
theorem wsin_wsL_law_r17 : ∀ w ∈ wsL_law_r17, w ∈ lw_tbl := List.forall_mem_cons.mpr ⟨tb_2 _ (List.mem_of_getElem? (i := 212) rfl), List.forall_mem_cons.mpr ⟨tb_2 _ (List.mem_of_getElem? (i := 213) rfl), List.forall_mem_cons.mpr ⟨tb_2 _ (List.mem_of_getElem? (i := 214) rfl), List.forall_mem_cons.mpr ⟨tb_2 _ (List.mem_of_getElem? (i := 216) rfl), List.forall_mem_cons.mpr ⟨tb_2 _ (List.mem_of_getElem? (i := 217) rfl), List.forall_mem_cons.mpr ⟨tb_2 _ (List.mem_of_getElem? (i := 218) rfl), List.forall_mem_cons.mpr ⟨tb_2 _ (List.mem_of_getElem? (i := 219) rfl), List.forall_mem_cons.mpr ⟨tb_2 _ (List.mem_of_getElem? (i := 220) rfl), List.forall_mem_cons.mpr ⟨tb_2 _ (List.mem_of_getElem? (i := 221) rfl), List.forall_mem_cons.mpr ⟨tb_2 _ (List.mem_of_getElem? (i := 222) rfl), List.forall_mem_cons.mpr ⟨tb_2 _ (List.mem_of_getElem? (i := 223) rfl), List.forall_mem_cons.mpr ⟨tb_2 _ (List.mem_of_getElem? (i := 224) rfl), List.forall_mem_cons.mpr ⟨tb_2 _ (List.mem_of_getElem? (i := 225) rfl), List.forall_mem_cons.mpr ⟨tb_2 _ (List.mem_of_getElem? (i := 226) rfl), List.forall_mem_cons.mpr ⟨tb_5 _ (List.mem_of_getElem? (i := 182) rfl), List.forall_mem_cons.mpr ⟨tb_5 _ (List.mem_of_getElem? (i := 183) rfl), List.forall_mem_cons.mpr ⟨tb_5 _ (List.mem_of_getElem? (i := 184) rfl), List.forall_mem_cons.mpr ⟨tb_5 _ (List.mem_of_getElem? (i := 185) rfl), List.forall_mem_cons.mpr ⟨tb_5 _ (List.mem_of_getElem? (i := 186) rfl), List.forall_mem_cons.mpr ⟨tb_5 _ (List.mem_of_getElem? (i := 188) rfl), List.forall_mem_cons.mpr ⟨tb_0 _ (List.mem_of_getElem? (i := 35) rfl), List.forall_mem_cons.mpr ⟨tb_5 _ (List.mem_of_getElem? (i := 189) rfl), List.forall_mem_cons.mpr ⟨tb_5 _ (List.mem_of_getElem? (i := 190) rfl), List.forall_mem_cons.mpr ⟨tb_5 _ (List.mem_of_getElem? (i := 192) rfl), (fun _ h => absurd h List.not_mem_nil)⟩⟩⟩⟩⟩⟩⟩⟩⟩⟩⟩⟩⟩⟩⟩⟩⟩⟩⟩⟩⟩⟩⟩⟩
set_option maxRecDepth 100000 in
theorem wsin_wsL_law_r18 : ∀ w ∈ wsL_law_r18, w ∈ lw_tbl := List.forall_mem_cons.mpr ⟨tb_0 _ (List.mem_of_getElem? (i := 36) rfl), List.forall_mem_cons.mpr ⟨tb_5 _ (List.mem_of_getElem? (i := 193) rfl), List.forall_mem_cons.mpr ⟨tb_5 _ (List.mem_of_getElem? (i := 194) rfl), List.forall_mem_cons.mpr ⟨tb_5 _ (List.mem_of_getElem? (i := 195) rfl), List.forall_mem_cons.mpr ⟨tb_5 _ (List.mem_of_getElem? (i := 196) rfl), List.forall_mem_cons.mpr ⟨tb_5 _ (List.mem_of_getElem? (i := 197) rfl), List.forall_mem_cons.mpr ⟨tb_5 _ (List.mem_of_getElem? (i := 198) rfl), List.forall_mem_cons.mpr ⟨tb_5 _ (List.mem_of_getElem? (i := 199) rfl), List.forall_mem_cons.mpr ⟨tb_2 _ (List.mem_of_getElem? (i := 227) rfl), List.forall_mem_cons.mpr ⟨tb_2 _ (List.mem_of_getElem? (i := 228) rfl), List.forall_mem_cons.mpr ⟨tb_2 _ (List.mem_of_getElem? (i := 229) rfl), List.forall_mem_cons.mpr ⟨tb_2 _ (List.mem_of_getElem? (i := 230) rfl), List.forall_mem_cons.mpr ⟨tb_2 _ (List.mem_of_getElem? (i := 231) rfl), List.forall_mem_cons.mpr ⟨tb_2 _ (List.mem_of_getElem? (i := 232) rfl), List.forall_mem_cons.mpr ⟨tb_2 _ (List.mem_of_getElem? (i := 233) rfl), List.forall_mem_cons.mpr ⟨tb_2 _ (List.mem_of_getElem? (i := 234) rfl), List.forall_mem_cons.mpr ⟨tb_5 _ (List.mem_of_getElem? (i := 200) rfl), List.forall_mem_cons.mpr ⟨tb_5 _ (List.mem_of_getElem? (i := 201) rfl), List.forall_mem_cons.mpr ⟨tb_5 _ (List.mem_of_getElem? (i := 202) rfl), List.forall_mem_cons.mpr ⟨tb_5 _ (List.mem_of_getElem? (i := 203) rfl), List.forall_mem_cons.mpr ⟨tb_2 _ (List.mem_of_getElem? (i := 235) rfl), List.forall_mem_cons.mpr ⟨tb_2 _ (List.mem_of_getElem? (i := 236) rfl), List.forall_mem_cons.mpr ⟨tb_2 _ (List.mem_of_getElem? (i := 237) rfl), List.forall_mem_cons.mpr ⟨tb_2 _ (List.mem_of_getElem? (i := 238) rfl), (fun _ h => absurd h List.not_mem_nil)⟩⟩⟩⟩⟩⟩⟩⟩⟩⟩⟩⟩⟩⟩⟩⟩⟩⟩⟩⟩⟩⟩⟩⟩
set_option maxRecDepth 100000 in
theorem wsin_wsL_law_r19 : ∀ w ∈ wsL_law_r19, w ∈ lw_tbl := List.forall_mem_cons.mpr ⟨tb_2 _ (List.mem_of_getElem? (i := 239) rfl), List.forall_mem_cons.mpr ⟨tb_3 _ (List.mem_of_getElem? (i := 0) rfl), List.forall_mem_cons.mpr ⟨tb_3 _ (List.mem_of_getElem? (i := 1) rfl), List.forall_mem_cons.mpr ⟨tb_3 _ (List.mem_of_getElem? (i := 2) rfl), List.forall_mem_cons.mpr ⟨tb_5 _ (List.mem_of_getElem? (i := 204) rfl), List.forall_mem_cons.mpr ⟨tb_5 _ (List.mem_of_getElem? (i := 205) rfl), List.forall_mem_cons.mpr ⟨tb_5 _ (List.mem_of_getElem? (i := 206) rfl), List.forall_mem_cons.mpr ⟨tb_5 _ (List.mem_of_getElem? (i := 207) rfl), List.forall_mem_cons.mpr ⟨tb_3 _ (List.mem_of_getElem? (i := 3) rfl), List.forall_mem_cons.mpr ⟨tb_3 _ (List.mem_of_getElem? (i := 4) rfl), List.forall_mem_cons.mpr ⟨tb_3 _ (List.mem_of_getElem? (i := 5) rfl), List.forall_mem_cons.mpr ⟨tb_3 _ (List.mem_of_getElem? (i := 6) rfl), List.forall_mem_cons.mpr ⟨tb_5 _ (List.mem_of_getElem? (i := 208) rfl), List.forall_mem_cons.mpr ⟨tb_5 _ (List.mem_of_getElem? (i := 209) rfl), List.forall_mem_cons.mpr ⟨tb_5 _ (List.mem_of_getElem? (i := 210) rfl), List.forall_mem_cons.mpr ⟨tb_5 _ (List.mem_of_getElem? (i := 211) rfl), List.forall_mem_cons.mpr ⟨tb_3 _ (List.mem_of_getElem? (i := 7) rfl), List.forall_mem_cons.mpr ⟨tb_3 _ (List.mem_of_getElem? (i := 8) rfl), List.forall_mem_cons.mpr ⟨tb_3 _ (List.mem_of_getElem? (i := 9) rfl), List.forall_mem_cons.mpr ⟨tb_3 _ (List.mem_of_getElem? (i := 10) rfl), List.forall_mem_cons.mpr ⟨tb_5 _ (List.mem_of_getElem? (i := 212) rfl), List.forall_mem_cons.mpr ⟨tb_5 _ (List.mem_of_getElem? (i := 213) rfl), List.forall_mem_cons.mpr ⟨tb_5 _ (List.mem_of_getElem? (i := 214) rfl), List.forall_mem_cons.mpr ⟨tb_5 _ (List.mem_of_getElem? (i := 215) rfl), (fun _ h => absurd h List.not_mem_nil)⟩⟩⟩⟩⟩⟩⟩⟩⟩⟩⟩⟩⟩⟩⟩⟩⟩⟩⟩⟩⟩⟩⟩⟩
set_option maxRecDepth 100000 in
theorem wsin_wsL_law_r20 : ∀ w ∈ wsL_law_r20, w ∈ lw_tbl := List.forall_mem_cons.mpr ⟨tb_3 _ (List.mem_of_getElem? (i := 11) rfl), List.forall_mem_cons.mpr ⟨tb_3 _ (List.mem_of_getElem? (i := 12) rfl), List.forall_mem_cons.mpr ⟨tb_3 _ (List.mem_of_getElem? (i := 13) rfl), List.forall_mem_cons.mpr ⟨tb_3 _ (List.mem_of_getElem? (i := 14) rfl), List.forall_mem_cons.mpr ⟨tb_5 _ (List.mem_of_getElem? (i := 216) rfl), List.forall_mem_cons.mpr ⟨tb_5 _ (List.mem_of_getElem? (i := 217) rfl), List.forall_mem_cons.mpr ⟨tb_5 _ (List.mem_of_getElem? (i := 218) rfl), List.forall_mem_cons.mpr ⟨tb_5 _ (List.mem_of_getElem? (i := 219) rfl), List.forall_mem_cons.mpr ⟨tb_5 _ (List.mem_of_getElem? (i := 220) rfl), List.forall_mem_cons.mpr ⟨tb_5 _ (List.mem_of_getElem? (i := 222) rfl), List.forall_mem_cons.mpr ⟨tb_0 _ (List.mem_of_getElem? (i := 37) rfl), List.forall_mem_cons.mpr ⟨tb_5 _ (List.mem_of_getElem? (i := 223) rfl), List.forall_mem_cons.mpr ⟨tb_3 _ (List.mem_of_getElem? (i := 15) rfl), List.forall_mem_cons.mpr ⟨tb_3 _ (List.mem_of_getElem? (i := 16) rfl), List.forall_mem_cons.mpr ⟨tb_3 _ (List.mem_of_getElem? (i := 17) rfl), List.forall_mem_cons.mpr ⟨tb_3 _ (List.mem_of_getElem? (i := 18) rfl), List.forall_mem_cons.mpr ⟨tb_5 _ (List.mem_of_getElem? (i := 224) rfl), List.forall_mem_cons.mpr ⟨tb_5 _ (List.mem_of_getElem? (i := 225) rfl), List.forall_mem_cons.mpr ⟨tb_5 _ (List.mem_of_getElem? (i := 226) rfl), List.forall_mem_cons.mpr ⟨tb_5 _ (List.mem_of_getElem? (i := 227) rfl), List.forall_mem_cons.mpr ⟨tb_3 _ (List.mem_of_getElem? (i := 19) rfl), List.forall_mem_cons.mpr ⟨tb_3 _ (List.mem_of_getElem? (i := 20) rfl), List.forall_mem_cons.mpr ⟨tb_3 _ (List.mem_of_getElem? (i := 21) rfl), List.forall_mem_cons.mpr ⟨tb_3 _ (List.mem_of_getElem? (i := 22) rfl), (fun _ h => absurd h List.not_mem_nil)⟩⟩⟩⟩⟩⟩⟩⟩⟩⟩⟩⟩⟩⟩⟩⟩⟩⟩⟩⟩⟩⟩⟩⟩
set_option maxRecDepth 100000 in
theorem wsin_wsL_law_r21 : ∀ w ∈ wsL_law_r21, w ∈ lw_tbl := List.forall_mem_cons.mpr ⟨tb_5 _ (List.mem_of_getElem? (i := 228) rfl), List.forall_mem_cons.mpr ⟨tb_5 _ (List.mem_of_getElem? (i := 229) rfl), List.forall_mem_cons.mpr ⟨tb_5 _ (List.mem_of_getElem? (i := 230) rfl), List.forall_mem_cons.mpr ⟨tb_5 _ (List.mem_of_getElem? (i := 231) rfl), List.forall_mem_cons.mpr ⟨tb_3 _ (List.mem_of_getElem? (i := 23) rfl), List.forall_mem_cons.mpr ⟨tb_3 _ (List.mem_of_getElem? (i := 24) rfl), List.forall_mem_cons.mpr ⟨tb_3 _ (List.mem_of_getElem? (i := 25) rfl), List.forall_mem_cons.mpr ⟨tb_3 _ (List.mem_of_getElem? (i := 26) rfl), List.forall_mem_cons.mpr ⟨tb_5 _ (List.mem_of_getElem? (i := 232) rfl), List.forall_mem_cons.mpr ⟨tb_5 _ (List.mem_of_getElem? (i := 233) rfl), List.forall_mem_cons.mpr ⟨tb_5 _ (List.mem_of_getElem? (i := 234) rfl), List.forall_mem_cons.mpr ⟨tb_5 _ (List.mem_of_getElem? (i := 235) rfl), List.forall_mem_cons.mpr ⟨tb_3 _ (List.mem_of_getElem? (i := 27) rfl), List.forall_mem_cons.mpr ⟨tb_3 _ (List.mem_of_getElem? (i := 28) rfl), List.forall_mem_cons.mpr ⟨tb_3 _ (List.mem_of_getElem? (i := 29) rfl), List.forall_mem_cons.mpr ⟨tb_3 _ (List.mem_of_getElem? (i := 30) rfl), List.forall_mem_cons.mpr ⟨tb_3 _ (List.mem_of_getElem? (i := 31) rfl), List.forall_mem_cons.mpr ⟨tb_3 _ (List.mem_of_getElem? (i := 32) rfl), List.forall_mem_cons.mpr ⟨tb_3 _ (List.mem_of_getElem? (i := 33) rfl), List.forall_mem_cons.mpr ⟨tb_3 _ (List.mem_of_getElem? (i := 34) rfl), List.forall_mem_cons.mpr ⟨tb_5 _ (List.mem_of_getElem? (i := 236) rfl), List.forall_mem_cons.mpr ⟨tb_5 _ (List.mem_of_getElem? (i := 237) rfl), List.forall_mem_cons.mpr ⟨tb_5 _ (List.mem_of_getElem? (i := 238) rfl), List.forall_mem_cons.mpr ⟨tb_5 _ (List.mem_of_getElem? (i := 239) rfl), (fun _ h => absurd h List.not_mem_nil)⟩⟩⟩⟩⟩⟩⟩⟩⟩⟩⟩⟩⟩⟩⟩⟩⟩⟩⟩⟩⟩⟩⟩⟩
set_option maxRecDepth 100000 in
theorem wsin_wsL_law_r22 : ∀ w ∈ wsL_law_r22, w ∈ lw_tbl := List.forall_mem_cons.mpr ⟨tb_3 _ (List.mem_of_getElem? (i := 35) rfl), List.forall_mem_cons.mpr ⟨tb_3 _ (List.mem_of_getElem? (i := 36) rfl), List.forall_mem_cons.mpr ⟨tb_3 _ (List.mem_of_getElem? (i := 37) rfl), List.forall_mem_cons.mpr ⟨tb_3 _ (List.mem_of_getElem? (i := 38) rfl), List.forall_mem_cons.mpr ⟨tb_6 _ (List.mem_of_getElem? (i := 0) rfl), List.forall_mem_cons.mpr ⟨tb_6 _ (List.mem_of_getElem? (i := 1) rfl), List.forall_mem_cons.mpr ⟨tb_6 _ (List.mem_of_getElem? (i := 2) rfl), List.forall_mem_cons.mpr ⟨tb_6 _ (List.mem_of_getElem? (i := 3) rfl), List.forall_mem_cons.mpr ⟨tb_3 _ (List.mem_of_getElem? (i := 39) rfl), List.forall_mem_cons.mpr ⟨tb_3 _ (List.mem_of_getElem? (i := 40) rfl), List.forall_mem_cons.mpr ⟨tb_3 _ (List.mem_of_getElem? (i := 41) rfl), List.forall_mem_cons.mpr ⟨tb_3 _ (List.mem_of_getElem? (i := 42) rfl), List.forall_mem_cons.mpr ⟨tb_3 _ (List.mem_of_getElem? (i := 43) rfl), List.forall_mem_cons.mpr ⟨tb_3 _ (List.mem_of_getElem? (i := 44) rfl), List.forall_mem_cons.mpr ⟨tb_3 _ (List.mem_of_getElem? (i := 45) rfl), List.forall_mem_cons.mpr ⟨tb_3 _ (List.mem_of_getElem? (i := 46) rfl), List.forall_mem_cons.mpr ⟨tb_3 _ (List.mem_of_getElem? (i := 47) rfl), List.forall_mem_cons.mpr ⟨tb_3 _ (List.mem_of_getElem? (i := 48) rfl), List.forall_mem_cons.mpr ⟨tb_3 _ (List.mem_of_getElem? (i := 49) rfl), List.forall_mem_cons.mpr ⟨tb_3 _ (List.mem_of_getElem? (i := 50) rfl), List.forall_mem_cons.mpr ⟨tb_6 _ (List.mem_of_getElem? (i := 4) rfl), List.forall_mem_cons.mpr ⟨tb_6 _ (List.mem_of_getElem? (i := 5) rfl), List.forall_mem_cons.mpr ⟨tb_6 _ (List.mem_of_getElem? (i := 6) rfl), List.forall_mem_cons.mpr ⟨tb_6 _ (List.mem_of_getElem? (i := 7) rfl), (fun _ h => absurd h List.not_mem_nil)⟩⟩⟩⟩⟩⟩⟩⟩⟩⟩⟩⟩⟩⟩⟩⟩⟩⟩⟩⟩⟩⟩⟩⟩
set_option maxRecDepth 100000 in
theorem wsin_wsL_law_r23 : ∀ w ∈ wsL_law_r23, w ∈ lw_tbl := List.forall_mem_cons.mpr ⟨tb_6 _ (List.mem_of_getElem? (i := 8) rfl), List.forall_mem_cons.mpr ⟨tb_6 _ (List.mem_of_getElem? (i := 10) rfl), List.forall_mem_cons.mpr ⟨tb_0 _ (List.mem_of_getElem? (i := 38) rfl), List.forall_mem_cons.mpr ⟨tb_6 _ (List.mem_of_getElem? (i := 11) rfl), List.forall_mem_cons.mpr ⟨tb_3 _ (List.mem_of_getElem? (i := 51) rfl), List.forall_mem_cons.mpr ⟨tb_3 _ (List.mem_of_getElem? (i := 52) rfl), List.forall_mem_cons.mpr ⟨tb_3 _ (List.mem_of_getElem? (i := 53) rfl), List.forall_mem_cons.mpr ⟨tb_3 _ (List.mem_of_getElem? (i := 54) rfl), List.forall_mem_cons.mpr ⟨tb_3 _ (List.mem_of_getElem? (i := 55) rfl), List.forall_mem_cons.mpr ⟨tb_3 _ (List.mem_of_getElem? (i := 56) rfl), List.forall_mem_cons.mpr ⟨tb_3 _ (List.mem_of_getElem? (i := 57) rfl), List.forall_mem_cons.mpr ⟨tb_3 _ (List.mem_of_getElem? (i := 58) rfl), List.forall_mem_cons.mpr ⟨tb_3 _ (List.mem_of_getElem? (i := 59) rfl), List.forall_mem_cons.mpr ⟨tb_3 _ (List.mem_of_getElem? (i := 60) rfl), List.forall_mem_cons.mpr ⟨tb_1 _ (List.mem_of_getElem? (i := 11) rfl), List.forall_mem_cons.mpr ⟨tb_3 _ (List.mem_of_getElem? (i := 61) rfl), List.forall_mem_cons.mpr ⟨tb_6 _ (List.mem_of_getElem? (i := 12) rfl), List.forall_mem_cons.mpr ⟨tb_6 _ (List.mem_of_getElem? (i := 13) rfl), List.forall_mem_cons.mpr ⟨tb_6 _ (List.mem_of_getElem? (i := 14) rfl), List.forall_mem_cons.mpr ⟨tb_6 _ (List.mem_of_getElem? (i := 15) rfl), List.forall_mem_cons.mpr ⟨tb_6 _ (List.mem_of_getElem? (i := 16) rfl), List.forall_mem_cons.mpr ⟨tb_3 _ (List.mem_of_getElem? (i := 62) rfl), List.forall_mem_cons.mpr ⟨tb_3 _ (List.mem_of_getElem? (i := 63) rfl), List.forall_mem_cons.mpr ⟨tb_3 _ (List.mem_of_getElem? (i := 64) rfl), (fun _ h => absurd h List.not_mem_nil)⟩⟩⟩⟩⟩⟩⟩⟩⟩⟩⟩⟩⟩⟩⟩⟩⟩⟩⟩⟩⟩⟩⟩⟩
set_option maxRecDepth 100000 in
theorem wsin_wsL_law_r24 : ∀ w ∈ wsL_law_r24, w ∈ lw_tbl := List.forall_mem_cons.mpr ⟨tb_3 _ (List.mem_of_getElem? (i := 65) rfl), List.forall_mem_cons.mpr ⟨tb_3 _ (List.mem_of_getElem? (i := 66) rfl), List.forall_mem_cons.mpr ⟨tb_3 _ (List.mem_of_getElem? (i := 67) rfl), List.forall_mem_cons.mpr ⟨tb_3 _ (List.mem_of_getElem? (i := 68) rfl), List.forall_mem_cons.mpr ⟨tb_3 _ (List.mem_of_getElem? (i := 69) rfl), List.forall_mem_cons.mpr ⟨tb_3 _ (List.mem_of_getElem? (i := 70) rfl), List.forall_mem_cons.mpr ⟨tb_6 _ (List.mem_of_getElem? (i := 17) rfl), List.forall_mem_cons.mpr ⟨tb_6 _ (List.mem_of_getElem? (i := 18) rfl), List.forall_mem_cons.mpr ⟨tb_6 _ (List.mem_of_getElem? (i := 19) rfl), List.forall_mem_cons.mpr ⟨tb_6 _ (List.mem_of_getElem? (i := 20) rfl), List.forall_mem_cons.mpr ⟨tb_3 _ (List.mem_of_getElem? (i := 71) rfl), List.forall_mem_cons.mpr ⟨tb_3 _ (List.mem_of_getElem? (i := 72) rfl), List.forall_mem_cons.mpr ⟨tb_3 _ (List.mem_of_getElem? (i := 73) rfl), List.forall_mem_cons.mpr ⟨tb_3 _ (List.mem_of_getElem? (i := 74) rfl), List.forall_mem_cons.mpr ⟨tb_3 _ (List.mem_of_getElem? (i := 75) rfl), List.forall_mem_cons.mpr ⟨tb_3 _ (List.mem_of_getElem? (i := 77) rfl), List.forall_mem_cons.mpr ⟨tb_0 _ (List.mem_of_getElem? (i := 6) rfl), List.forall_mem_cons.mpr ⟨tb_3 _ (List.mem_of_getElem? (i := 78) rfl), List.forall_mem_cons.mpr ⟨tb_3 _ (List.mem_of_getElem? (i := 79) rfl), List.forall_mem_cons.mpr ⟨tb_3 _ (List.mem_of_getElem? (i := 80) rfl), List.forall_mem_cons.mpr ⟨tb_3 _ (List.mem_of_getElem? (i := 81) rfl), List.forall_mem_cons.mpr ⟨tb_3 _ (List.mem_of_getElem? (i := 82) rfl), List.forall_mem_cons.mpr ⟨tb_1 _ (List.mem_of_getElem? (i := 197) rfl), List.forall_mem_cons.mpr ⟨tb_1 _ (List.mem_of_getElem? (i := 198) rfl), (fun _ h => absurd h List.not_mem_nil)⟩⟩⟩⟩⟩⟩⟩⟩⟩⟩⟩⟩⟩⟩⟩⟩⟩⟩⟩⟩⟩⟩⟩⟩
set_option maxRecDepth 100000 in
theorem wsin_wsL_law_r25 : ∀ w ∈ wsL_law_r25, w ∈ lw_tbl := List.forall_mem_cons.mpr ⟨tb_1 _ (List.mem_of_getElem? (i := 208) rfl), List.forall_mem_cons.mpr ⟨tb_1 _ (List.mem_of_getElem? (i := 199) rfl), List.forall_mem_cons.mpr ⟨tb_3 _ (List.mem_of_getElem? (i := 83) rfl), List.forall_mem_cons.mpr ⟨tb_3 _ (List.mem_of_getElem? (i := 84) rfl), List.forall_mem_cons.mpr ⟨tb_3 _ (List.mem_of_getElem? (i := 85) rfl), List.forall_mem_cons.mpr ⟨tb_3 _ (List.mem_of_getElem? (i := 86) rfl), List.forall_mem_cons.mpr ⟨tb_3 _ (List.mem_of_getElem? (i := 87) rfl), List.forall_mem_cons.mpr ⟨tb_1 _ (List.mem_of_getElem? (i := 177) rfl), List.forall_mem_cons.mpr ⟨tb_1 _ (List.mem_of_getElem? (i := 180) rfl), List.forall_mem_cons.mpr ⟨tb_1 _ (List.mem_of_getElem? (i := 181) rfl), List.forall_mem_cons.mpr ⟨tb_3 _ (List.mem_of_getElem? (i := 88) rfl), List.forall_mem_cons.mpr ⟨tb_3 _ (List.mem_of_getElem? (i := 89) rfl), List.forall_mem_cons.mpr ⟨tb_3 _ (List.mem_of_getElem? (i := 90) rfl), List.forall_mem_cons.mpr ⟨tb_3 _ (List.mem_of_getElem? (i := 91) rfl), List.forall_mem_cons.mpr ⟨tb_3 _ (List.mem_of_getElem? (i := 92) rfl), List.forall_mem_cons.mpr ⟨tb_3 _ (List.mem_of_getElem? (i := 93) rfl), List.forall_mem_cons.mpr ⟨tb_3 _ (List.mem_of_getElem? (i := 94) rfl), List.forall_mem_cons.mpr ⟨tb_3 _ (List.mem_of_getElem? (i := 95) rfl), List.forall_mem_cons.mpr ⟨tb_3 _ (List.mem_of_getElem? (i := 96) rfl), List.forall_mem_cons.mpr ⟨tb_1 _ (List.mem_of_getElem? (i := 207) rfl), List.forall_mem_cons.mpr ⟨tb_1 _ (List.mem_of_getElem? (i := 206) rfl), List.forall_mem_cons.mpr ⟨tb_3 _ (List.mem_of_getElem? (i := 97) rfl), List.forall_mem_cons.mpr ⟨tb_3 _ (List.mem_of_getElem? (i := 98) rfl), List.forall_mem_cons.mpr ⟨tb_3 _ (List.mem_of_getElem? (i := 99) rfl), (fun _ h => absurd h List.not_mem_nil)⟩⟩⟩⟩⟩⟩⟩⟩⟩⟩⟩⟩⟩⟩⟩⟩⟩⟩⟩⟩⟩⟩⟩⟩
set_option maxRecDepth 100000 in
theorem wsin_wsL_law_r26 : ∀ w ∈ wsL_law_r26, w ∈ lw_tbl := List.forall_mem_cons.mpr ⟨tb_3 _ (List.mem_of_getElem? (i := 100) rfl), List.forall_mem_cons.mpr ⟨tb_3 _ (List.mem_of_getElem? (i := 102) rfl), List.forall_mem_cons.mpr ⟨tb_0 _ (List.mem_of_getElem? (i := 7) rfl), List.forall_mem_cons.mpr ⟨tb_3 _ (List.mem_of_getElem? (i := 103) rfl), List.forall_mem_cons.mpr ⟨tb_1 _ (List.mem_of_getElem? (i := 204) rfl), List.forall_mem_cons.mpr ⟨tb_1 _ (List.mem_of_getElem? (i := 209) rfl), List.forall_mem_cons.mpr ⟨tb_3 _ (List.mem_of_getElem? (i := 105) rfl), List.forall_mem_cons.mpr ⟨tb_3 _ (List.mem_of_getElem? (i := 107) rfl), List.forall_mem_cons.mpr ⟨tb_0 _ (List.mem_of_getElem? (i := 8) rfl), List.forall_mem_cons.mpr ⟨tb_3 _ (List.mem_of_getElem? (i := 108) rfl), List.forall_mem_cons.mpr ⟨tb_3 _ (List.mem_of_getElem? (i := 109) rfl), List.forall_mem_cons.mpr ⟨tb_3 _ (List.mem_of_getElem? (i := 111) rfl), List.forall_mem_cons.mpr ⟨tb_0 _ (List.mem_of_getElem? (i := 9) rfl), List.forall_mem_cons.mpr ⟨tb_3 _ (List.mem_of_getElem? (i := 112) rfl), List.forall_mem_cons.mpr ⟨tb_3 _ (List.mem_of_getElem? (i := 113) rfl), List.forall_mem_cons.mpr ⟨tb_3 _ (List.mem_of_getElem? (i := 115) rfl), List.forall_mem_cons.mpr ⟨tb_0 _ (List.mem_of_getElem? (i := 10) rfl), List.forall_mem_cons.mpr ⟨tb_3 _ (List.mem_of_getElem? (i := 116) rfl), List.forall_mem_cons.mpr ⟨tb_3 _ (List.mem_of_getElem? (i := 117) rfl), List.forall_mem_cons.mpr ⟨tb_3 _ (List.mem_of_getElem? (i := 118) rfl), List.forall_mem_cons.mpr ⟨tb_3 _ (List.mem_of_getElem? (i := 119) rfl), List.forall_mem_cons.mpr ⟨tb_3 _ (List.mem_of_getElem? (i := 120) rfl), List.forall_mem_cons.mpr ⟨tb_3 _ (List.mem_of_getElem? (i := 121) rfl), List.forall_mem_cons.mpr ⟨tb_3 _ (List.mem_of_getElem? (i := 123) rfl), (fun _ h => absurd h List.not_mem_nil)⟩⟩⟩⟩⟩⟩⟩⟩⟩⟩⟩⟩⟩⟩⟩⟩⟩⟩⟩⟩⟩⟩⟩⟩
set_option maxRecDepth 100000 in
theorem wsin_wsL_law_r27 : ∀ w ∈ wsL_law_r27, w ∈ lw_tbl := List.forall_mem_cons.mpr ⟨tb_0 _ (List.mem_of_getElem? (i := 11) rfl), List.forall_mem_cons.mpr ⟨tb_3 _ (List.mem_of_getElem? (i := 124) rfl), List.forall_mem_cons.mpr ⟨tb_3 _ (List.mem_of_getElem? (i := 125) rfl), List.forall_mem_cons.mpr ⟨tb_3 _ (List.mem_of_getElem? (i := 127) rfl), List.forall_mem_cons.mpr ⟨tb_0 _ (List.mem_of_getElem? (i := 12) rfl), List.forall_mem_cons.mpr ⟨tb_3 _ (List.mem_of_getElem? (i := 128) rfl), List.forall_mem_cons.mpr ⟨tb_3 _ (List.mem_of_getElem? (i := 130) rfl), List.forall_mem_cons.mpr ⟨tb_3 _ (List.mem_of_getElem? (i := 132) rfl), List.forall_mem_cons.mpr ⟨tb_0 _ (List.mem_of_getElem? (i := 13) rfl), List.forall_mem_cons.mpr ⟨tb_3 _ (List.mem_of_getElem? (i := 133) rfl), List.forall_mem_cons.mpr ⟨tb_3 _ (List.mem_of_getElem? (i := 134) rfl), List.forall_mem_cons.mpr ⟨tb_3 _ (List.mem_of_getElem? (i := 136) rfl), List.forall_mem_cons.mpr ⟨tb_0 _ (List.mem_of_getElem? (i := 14) rfl), List.forall_mem_cons.mpr ⟨tb_3 _ (List.mem_of_getElem? (i := 137) rfl), List.forall_mem_cons.mpr ⟨tb_3 _ (List.mem_of_getElem? (i := 139) rfl), List.forall_mem_cons.mpr ⟨tb_3 _ (List.mem_of_getElem? (i := 141) rfl), List.forall_mem_cons.mpr ⟨tb_0 _ (List.mem_of_getElem? (i := 15) rfl), List.forall_mem_cons.mpr ⟨tb_3 _ (List.mem_of_getElem? (i := 142) rfl), List.forall_mem_cons.mpr ⟨tb_3 _ (List.mem_of_getElem? (i := 143) rfl), List.forall_mem_cons.mpr ⟨tb_3 _ (List.mem_of_getElem? (i := 144) rfl), List.forall_mem_cons.mpr ⟨tb_3 _ (List.mem_of_getElem? (i := 145) rfl), List.forall_mem_cons.mpr ⟨tb_3 _ (List.mem_of_getElem? (i := 146) rfl), List.forall_mem_cons.mpr ⟨tb_6 _ (List.mem_of_getElem? (i := 21) rfl), List.forall_mem_cons.mpr ⟨tb_6 _ (List.mem_of_getElem? (i := 22) rfl), (fun _ h => absurd h List.not_mem_nil)⟩⟩⟩⟩⟩⟩⟩⟩⟩⟩⟩⟩⟩⟩⟩⟩⟩⟩⟩⟩⟩⟩⟩⟩
set_option maxRecDepth 100000 in
theorem wsin_wsL_law_r28 : ∀ w ∈ wsL_law_r28, w ∈ lw_tbl := List.forall_mem_cons.mpr ⟨tb_6 _ (List.mem_of_getElem? (i := 23) rfl), List.forall_mem_cons.mpr ⟨tb_6 _ (List.mem_of_getElem? (i := 24) rfl), List.forall_mem_cons.mpr ⟨tb_6 _ (List.mem_of_getElem? (i := 25) rfl), List.forall_mem_cons.mpr ⟨tb_6 _ (List.mem_of_getElem? (i := 27) rfl), List.forall_mem_cons.mpr ⟨tb_0 _ (List.mem_of_getElem? (i := 39) rfl), List.forall_mem_cons.mpr ⟨tb_6 _ (List.mem_of_getElem? (i := 28) rfl), List.forall_mem_cons.mpr ⟨tb_6 _ (List.mem_of_getElem? (i := 29) rfl), List.forall_mem_cons.mpr ⟨tb_6 _ (List.mem_of_getElem? (i := 31) rfl), List.forall_mem_cons.mpr ⟨tb_0 _ (List.mem_of_getElem? (i := 40) rfl), List.forall_mem_cons.mpr ⟨tb_6 _ (List.mem_of_getElem? (i := 32) rfl), List.forall_mem_cons.mpr ⟨tb_4 _ (List.mem_of_getElem? (i := 209) rfl), List.forall_mem_cons.mpr ⟨tb_4 _ (List.mem_of_getElem? (i := 210) rfl), List.forall_mem_cons.mpr ⟨tb_4 _ (List.mem_of_getElem? (i := 211) rfl), List.forall_mem_cons.mpr ⟨tb_4 _ (List.mem_of_getElem? (i := 212) rfl), List.forall_mem_cons.mpr ⟨tb_4 _ (List.mem_of_getElem? (i := 213) rfl), List.forall_mem_cons.mpr ⟨tb_4 _ (List.mem_of_getElem? (i := 214) rfl), List.forall_mem_cons.mpr ⟨tb_4 _ (List.mem_of_getElem? (i := 215) rfl), List.forall_mem_cons.mpr ⟨tb_6 _ (List.mem_of_getElem? (i := 33) rfl), List.forall_mem_cons.mpr ⟨tb_6 _ (List.mem_of_getElem? (i := 35) rfl), List.forall_mem_cons.mpr ⟨tb_0 _ (List.mem_of_getElem? (i := 41) rfl), List.forall_mem_cons.mpr ⟨tb_6 _ (List.mem_of_getElem? (i := 36) rfl), List.forall_mem_cons.mpr ⟨tb_6 _ (List.mem_of_getElem? (i := 37) rfl), List.forall_mem_cons.mpr ⟨tb_6 _ (List.mem_of_getElem? (i := 39) rfl), List.forall_mem_cons.mpr ⟨tb_0 _ (List.mem_of_getElem? (i := 42) rfl), (fun _ h => absurd h List.not_mem_nil)⟩⟩⟩⟩⟩⟩⟩⟩⟩⟩⟩⟩⟩⟩⟩⟩⟩⟩⟩⟩⟩⟩⟩⟩
set_option maxRecDepth 100000 in
theorem wsin_wsL_law_r29 : ∀ w ∈ wsL_law_r29, w ∈ lw_tbl := List.forall_mem_cons.mpr ⟨tb_6 _ (List.mem_of_getElem? (i := 40) rfl), List.forall_mem_cons.mpr ⟨tb_6 _ (List.mem_of_getElem? (i := 41) rfl), List.forall_mem_cons.mpr ⟨tb_6 _ (List.mem_of_getElem? (i := 43) rfl), List.forall_mem_cons.mpr ⟨tb_0 _ (List.mem_of_getElem? (i := 43) rfl), List.forall_mem_cons.mpr ⟨tb_6 _ (List.mem_of_getElem? (i := 44) rfl), List.forall_mem_cons.mpr ⟨tb_6 _ (List.mem_of_getElem? (i := 45) rfl), List.forall_mem_cons.mpr ⟨tb_6 _ (List.mem_of_getElem? (i := 47) rfl), List.forall_mem_cons.mpr ⟨tb_0 _ (List.mem_of_getElem? (i := 44) rfl), List.forall_mem_cons.mpr ⟨tb_6 _ (List.mem_of_getElem? (i := 48) rfl), List.forall_mem_cons.mpr ⟨tb_6 _ (List.mem_of_getElem? (i := 49) rfl), List.forall_mem_cons.mpr ⟨tb_6 _ (List.mem_of_getElem? (i := 51) rfl), List.forall_mem_cons.mpr ⟨tb_0 _ (List.mem_of_getElem? (i := 45) rfl), List.forall_mem_cons.mpr ⟨tb_6 _ (List.mem_of_getElem? (i := 52) rfl), List.forall_mem_cons.mpr ⟨tb_6 _ (List.mem_of_getElem? (i := 53) rfl), List.forall_mem_cons.mpr ⟨tb_6 _ (List.mem_of_getElem? (i := 55) rfl), List.forall_mem_cons.mpr ⟨tb_0 _ (List.mem_of_getElem? (i := 46) rfl), List.forall_mem_cons.mpr ⟨tb_6 _ (List.mem_of_getElem? (i := 56) rfl), List.forall_mem_cons.mpr ⟨tb_6 _ (List.mem_of_getElem? (i := 57) rfl), List.forall_mem_cons.mpr ⟨tb_6 _ (List.mem_of_getElem? (i := 59) rfl), List.forall_mem_cons.mpr ⟨tb_0 _ (List.mem_of_getElem? (i := 47) rfl), List.forall_mem_cons.mpr ⟨tb_6 _ (List.mem_of_getElem? (i := 60) rfl), List.forall_mem_cons.mpr ⟨tb_6 _ (List.mem_of_getElem? (i := 61) rfl), List.forall_mem_cons.mpr ⟨tb_6 _ (List.mem_of_getElem? (i := 63) rfl), List.forall_mem_cons.mpr ⟨tb_0 _ (List.mem_of_getElem? (i := 48) rfl), (fun _ h => absurd h List.not_mem_nil)⟩⟩⟩⟩⟩⟩⟩⟩⟩⟩⟩⟩⟩⟩⟩⟩⟩⟩⟩⟩⟩⟩⟩⟩
set_option maxRecDepth 100000 in
theorem wsin_wsL_law_r30 : ∀ w ∈ wsL_law_r30, w ∈ lw_tbl := List.forall_mem_cons.mpr ⟨tb_6 _ (List.mem_of_getElem? (i := 64) rfl), List.forall_mem_cons.mpr ⟨tb_6 _ (List.mem_of_getElem? (i := 65) rfl), List.forall_mem_cons.mpr ⟨tb_6 _ (List.mem_of_getElem? (i := 67) rfl), List.forall_mem_cons.mpr ⟨tb_0 _ (List.mem_of_getElem? (i := 49) rfl), List.forall_mem_cons.mpr ⟨tb_6 _ (List.mem_of_getElem? (i := 68) rfl), List.forall_mem_cons.mpr ⟨tb_3 _ (List.mem_of_getElem? (i := 147) rfl), List.forall_mem_cons.mpr ⟨tb_3 _ (List.mem_of_getElem? (i := 148) rfl), List.forall_mem_cons.mpr ⟨tb_3 _ (List.mem_of_getElem? (i := 149) rfl), List.forall_mem_cons.mpr ⟨tb_3 _ (List.mem_of_getElem? (i := 150) rfl), List.forall_mem_cons.mpr ⟨tb_6 _ (List.mem_of_getElem? (i := 69) rfl), List.forall_mem_cons.mpr ⟨tb_6 _ (List.mem_of_getElem? (i := 70) rfl), List.forall_mem_cons.mpr ⟨tb_6 _ (List.mem_of_getElem? (i := 71) rfl), List.forall_mem_cons.mpr ⟨tb_6 _ (List.mem_of_getElem? (i := 72) rfl), List.forall_mem_cons.mpr ⟨tb_3 _ (List.mem_of_getElem? (i := 151) rfl), List.forall_mem_cons.mpr ⟨tb_3 _ (List.mem_of_getElem? (i := 152) rfl), List.forall_mem_cons.mpr ⟨tb_3 _ (List.mem_of_getElem? (i := 153) rfl), List.forall_mem_cons.mpr ⟨tb_3 _ (List.mem_of_getElem? (i := 154) rfl), List.forall_mem_cons.mpr ⟨tb_3 _ (List.mem_of_getElem? (i := 155) rfl), List.forall_mem_cons.mpr ⟨tb_3 _ (List.mem_of_getElem? (i := 156) rfl), List.forall_mem_cons.mpr ⟨tb_3 _ (List.mem_of_getElem? (i := 157) rfl), List.forall_mem_cons.mpr ⟨tb_3 _ (List.mem_of_getElem? (i := 158) rfl), List.forall_mem_cons.mpr ⟨tb_6 _ (List.mem_of_getElem? (i := 73) rfl), List.forall_mem_cons.mpr ⟨tb_6 _ (List.mem_of_getElem? (i := 74) rfl), List.forall_mem_cons.mpr ⟨tb_6 _ (List.mem_of_getElem? (i := 75) rfl), (fun _ h => absurd h List.not_mem_nil)⟩⟩⟩⟩⟩⟩⟩⟩⟩⟩⟩⟩⟩⟩⟩⟩⟩⟩⟩⟩⟩⟩⟩⟩
set_option maxRecDepth 100000 in
theorem wsin_wsL_law_r31 : ∀ w ∈ wsL_law_r31, w ∈ lw_tbl := List.forall_mem_cons.mpr ⟨tb_6 _ (List.mem_of_getElem? (i := 76) rfl), List.forall_mem_cons.mpr ⟨tb_3 _ (List.mem_of_getElem? (i := 159) rfl), List.forall_mem_cons.mpr ⟨tb_3 _ (List.mem_of_getElem? (i := 160) rfl), List.forall_mem_cons.mpr ⟨tb_3 _ (List.mem_of_getElem? (i := 161) rfl), List.forall_mem_cons.mpr ⟨tb_3 _ (List.mem_of_getElem? (i := 162) rfl), List.forall_mem_cons.mpr ⟨tb_3 _ (List.mem_of_getElem? (i := 163) rfl), List.forall_mem_cons.mpr ⟨tb_3 _ (List.mem_of_getElem? (i := 165) rfl), List.forall_mem_cons.mpr ⟨tb_0 _ (List.mem_of_getElem? (i := 16) rfl), List.forall_mem_cons.mpr ⟨tb_3 _ (List.mem_of_getElem? (i := 166) rfl), List.forall_mem_cons.mpr ⟨tb_3 _ (List.mem_of_getElem? (i := 167) rfl), List.forall_mem_cons.mpr ⟨tb_3 _ (List.mem_of_getElem? (i := 168) rfl), List.forall_mem_cons.mpr ⟨tb_3 _ (List.mem_of_getElem? (i := 169) rfl), List.forall_mem_cons.mpr ⟨tb_3 _ (List.mem_of_getElem? (i := 170) rfl), List.forall_mem_cons.mpr ⟨tb_6 _ (List.mem_of_getElem? (i := 77) rfl), List.forall_mem_cons.mpr ⟨tb_6 _ (List.mem_of_getElem? (i := 78) rfl), List.forall_mem_cons.mpr ⟨tb_6 _ (List.mem_of_getElem? (i := 79) rfl), List.forall_mem_cons.mpr ⟨tb_6 _ (List.mem_of_getElem? (i := 80) rfl), List.forall_mem_cons.mpr ⟨tb_3 _ (List.mem_of_getElem? (i := 171) rfl), List.forall_mem_cons.mpr ⟨tb_3 _ (List.mem_of_getElem? (i := 172) rfl), List.forall_mem_cons.mpr ⟨tb_3 _ (List.mem_of_getElem? (i := 173) rfl), List.forall_mem_cons.mpr ⟨tb_3 _ (List.mem_of_getElem? (i := 174) rfl), List.forall_mem_cons.mpr ⟨tb_6 _ (List.mem_of_getElem? (i := 81) rfl), List.forall_mem_cons.mpr ⟨tb_6 _ (List.mem_of_getElem? (i := 82) rfl), List.forall_mem_cons.mpr ⟨tb_6 _ (List.mem_of_getElem? (i := 83) rfl), (fun _ h => absurd h List.not_mem_nil)⟩⟩⟩⟩⟩⟩⟩⟩⟩⟩⟩⟩⟩⟩⟩⟩⟩⟩⟩⟩⟩⟩⟩⟩
set_option maxRecDepth 100000 in
theorem wsin_wsL_law_r32 : ∀ w ∈ wsL_law_r32, w ∈ lw_tbl := List.forall_mem_cons.mpr ⟨tb_6 _ (List.mem_of_getElem? (i := 84) rfl), List.forall_mem_cons.mpr ⟨tb_3 _ (List.mem_of_getElem? (i := 175) rfl), List.forall_mem_cons.mpr ⟨tb_3 _ (List.mem_of_getElem? (i := 176) rfl), List.forall_mem_cons.mpr ⟨tb_3 _ (List.mem_of_getElem? (i := 177) rfl), List.forall_mem_cons.mpr ⟨tb_3 _ (List.mem_of_getElem? (i := 178) rfl), List.forall_mem_cons.mpr ⟨tb_6 _ (List.mem_of_getElem? (i := 85) rfl), List.forall_mem_cons.mpr ⟨tb_6 _ (List.mem_of_getElem? (i := 86) rfl), List.forall_mem_cons.mpr ⟨tb_6 _ (List.mem_of_getElem? (i := 87) rfl), List.forall_mem_cons.mpr ⟨tb_6 _ (List.mem_of_getElem? (i := 88) rfl), List.forall_mem_cons.mpr ⟨tb_3 _ (List.mem_of_getElem? (i := 179) rfl), List.forall_mem_cons.mpr ⟨tb_3 _ (List.mem_of_getElem? (i := 180) rfl), List.forall_mem_cons.mpr ⟨tb_3 _ (List.mem_of_getElem? (i := 181) rfl), List.forall_mem_cons.mpr ⟨tb_3 _ (List.mem_of_getElem? (i := 182) rfl), List.forall_mem_cons.mpr ⟨tb_3 _ (List.mem_of_getElem? (i := 183) rfl), List.forall_mem_cons.mpr ⟨tb_3 _ (List.mem_of_getElem? (i := 184) rfl), List.forall_mem_cons.mpr ⟨tb_3 _ (List.mem_of_getElem? (i := 185) rfl), List.forall_mem_cons.mpr ⟨tb_3 _ (List.mem_of_getElem? (i := 186) rfl), List.forall_mem_cons.mpr ⟨tb_6 _ (List.mem_of_getElem? (i := 89) rfl), List.forall_mem_cons.mpr ⟨tb_6 _ (List.mem_of_getElem? (i := 90) rfl), List.forall_mem_cons.mpr ⟨tb_6 _ (List.mem_of_getElem? (i := 91) rfl), List.forall_mem_cons.mpr ⟨tb_6 _ (List.mem_of_getElem? (i := 92) rfl), List.forall_mem_cons.mpr ⟨tb_3 _ (List.mem_of_getElem? (i := 187) rfl), List.forall_mem_cons.mpr ⟨tb_3 _ (List.mem_of_getElem? (i := 188) rfl), List.forall_mem_cons.mpr ⟨tb_3 _ (List.mem_of_getElem? (i := 189) rfl), (fun _ h => absurd h List.not_mem_nil)⟩⟩⟩⟩⟩⟩⟩⟩⟩⟩⟩⟩⟩⟩⟩⟩⟩⟩⟩⟩⟩⟩⟩⟩
set_option maxRecDepth 100000 in
theorem wsin_wsL_law_r33 : ∀ w ∈ wsL_law_r33, w ∈ lw_tbl := List.forall_mem_cons.mpr ⟨tb_3 _ (List.mem_of_getElem? (i := 190) rfl), List.forall_mem_cons.mpr ⟨tb_3 _ (List.mem_of_getElem? (i := 191) rfl), List.forall_mem_cons.mpr ⟨tb_3 _ (List.mem_of_getElem? (i := 192) rfl), List.forall_mem_cons.mpr ⟨tb_3 _ (List.mem_of_getElem? (i := 193) rfl), List.forall_mem_cons.mpr ⟨tb_3 _ (List.mem_of_getElem? (i := 194) rfl), List.forall_mem_cons.mpr ⟨tb_6 _ (List.mem_of_getElem? (i := 93) rfl), List.forall_mem_cons.mpr ⟨tb_6 _ (List.mem_of_getElem? (i := 94) rfl), List.forall_mem_cons.mpr ⟨tb_6 _ (List.mem_of_getElem? (i := 95) rfl), List.forall_mem_cons.mpr ⟨tb_6 _ (List.mem_of_getElem? (i := 96) rfl), List.forall_mem_cons.mpr ⟨tb_3 _ (List.mem_of_getElem? (i := 195) rfl), List.forall_mem_cons.mpr ⟨tb_3 _ (List.mem_of_getElem? (i := 196) rfl), List.forall_mem_cons.mpr ⟨tb_3 _ (List.mem_of_getElem? (i := 197) rfl), List.forall_mem_cons.mpr ⟨tb_3 _ (List.mem_of_getElem? (i := 198) rfl), List.forall_mem_cons.mpr ⟨tb_3 _ (List.mem_of_getElem? (i := 199) rfl), List.forall_mem_cons.mpr ⟨tb_3 _ (List.mem_of_getElem? (i := 200) rfl), List.forall_mem_cons.mpr ⟨tb_3 _ (List.mem_of_getElem? (i := 201) rfl), List.forall_mem_cons.mpr ⟨tb_3 _ (List.mem_of_getElem? (i := 202) rfl), List.forall_mem_cons.mpr ⟨tb_3 _ (List.mem_of_getElem? (i := 203) rfl), List.forall_mem_cons.mpr ⟨tb_6 _ (List.mem_of_getElem? (i := 97) rfl), List.forall_mem_cons.mpr ⟨tb_6 _ (List.mem_of_getElem? (i := 98) rfl), List.forall_mem_cons.mpr ⟨tb_6 _ (List.mem_of_getElem? (i := 99) rfl), List.forall_mem_cons.mpr ⟨tb_6 _ (List.mem_of_getElem? (i := 100) rfl), List.forall_mem_cons.mpr ⟨tb_3 _ (List.mem_of_getElem? (i := 204) rfl), List.forall_mem_cons.mpr ⟨tb_3 _ (List.mem_of_getElem? (i := 205) rfl), (fun _ h => absurd h List.not_mem_nil)⟩⟩⟩⟩⟩⟩⟩⟩⟩⟩⟩⟩⟩⟩⟩⟩⟩⟩⟩⟩⟩⟩⟩⟩
set_option maxRecDepth 100000 in
theorem wsin_wsL_law_r34 : ∀ w ∈ wsL_law_r34, w ∈ lw_tbl := List.forall_mem_cons.mpr ⟨tb_3 _ (List.mem_of_getElem? (i := 206) rfl), List.forall_mem_cons.mpr ⟨tb_3 _ (List.mem_of_getElem? (i := 207) rfl), List.forall_mem_cons.mpr ⟨tb_3 _ (List.mem_of_getElem? (i := 208) rfl), List.forall_mem_cons.mpr ⟨tb_3 _ (List.mem_of_getElem? (i := 209) rfl), List.forall_mem_cons.mpr ⟨tb_3 _ (List.mem_of_getElem? (i := 210) rfl), List.forall_mem_cons.mpr ⟨tb_3 _ (List.mem_of_getElem? (i := 211) rfl), List.forall_mem_cons.mpr ⟨tb_3 _ (List.mem_of_getElem? (i := 212) rfl), List.forall_mem_cons.mpr ⟨tb_3 _ (List.mem_of_getElem? (i := 213) rfl), List.forall_mem_cons.mpr ⟨tb_3 _ (List.mem_of_getElem? (i := 214) rfl), List.forall_mem_cons.mpr ⟨tb_3 _ (List.mem_of_getElem? (i := 215) rfl), List.forall_mem_cons.mpr ⟨tb_6 _ (List.mem_of_getElem? (i := 101) rfl), List.forall_mem_cons.mpr ⟨tb_6 _ (List.mem_of_getElem? (i := 102) rfl), List.forall_mem_cons.mpr ⟨tb_6 _ (List.mem_of_getElem? (i := 103) rfl), List.forall_mem_cons.mpr ⟨tb_6 _ (List.mem_of_getElem? (i := 104) rfl), List.forall_mem_cons.mpr ⟨tb_6 _ (List.mem_of_getElem? (i := 105) rfl), List.forall_mem_cons.mpr ⟨tb_6 _ (List.mem_of_getElem? (i := 107) rfl), List.forall_mem_cons.mpr ⟨tb_0 _ (List.mem_of_getElem? (i := 50) rfl), List.forall_mem_cons.mpr ⟨tb_6 _ (List.mem_of_getElem? (i := 108) rfl), List.forall_mem_cons.mpr ⟨tb_3 _ (List.mem_of_getElem? (i := 216) rfl), List.forall_mem_cons.mpr ⟨tb_3 _ (List.mem_of_getElem? (i := 217) rfl), List.forall_mem_cons.mpr ⟨tb_3 _ (List.mem_of_getElem? (i := 218) rfl), List.forall_mem_cons.mpr ⟨tb_3 _ (List.mem_of_getElem? (i := 219) rfl), List.forall_mem_cons.mpr ⟨tb_3 _ (List.mem_of_getElem? (i := 220) rfl), List.forall_mem_cons.mpr ⟨tb_3 _ (List.mem_of_getElem? (i := 221) rfl), (fun _ h => absurd h List.not_mem_nil)⟩⟩⟩⟩⟩⟩⟩⟩⟩⟩⟩⟩⟩⟩⟩⟩⟩⟩⟩⟩⟩⟩⟩⟩
set_option maxRecDepth 100000 in
theorem wsin_wsL_law_r35 : ∀ w ∈ wsL_law_r35, w ∈ lw_tbl := List.forall_mem_cons.mpr ⟨tb_3 _ (List.mem_of_getElem? (i := 222) rfl), List.forall_mem_cons.mpr ⟨tb_3 _ (List.mem_of_getElem? (i := 223) rfl), List.forall_mem_cons.mpr ⟨tb_6 _ (List.mem_of_getElem? (i := 109) rfl), List.forall_mem_cons.mpr ⟨tb_6 _ (List.mem_of_getElem? (i := 110) rfl), List.forall_mem_cons.mpr ⟨tb_6 _ (List.mem_of_getElem? (i := 111) rfl), List.forall_mem_cons.mpr ⟨tb_6 _ (List.mem_of_getElem? (i := 112) rfl), List.forall_mem_cons.mpr ⟨tb_3 _ (List.mem_of_getElem? (i := 225) rfl), List.forall_mem_cons.mpr ⟨tb_3 _ (List.mem_of_getElem? (i := 226) rfl), List.forall_mem_cons.mpr ⟨tb_3 _ (List.mem_of_getElem? (i := 227) rfl), List.forall_mem_cons.mpr ⟨tb_3 _ (List.mem_of_getElem? (i := 228) rfl), List.forall_mem_cons.mpr ⟨tb_6 _ (List.mem_of_getElem? (i := 113) rfl), List.forall_mem_cons.mpr ⟨tb_6 _ (List.mem_of_getElem? (i := 114) rfl), List.forall_mem_cons.mpr ⟨tb_6 _ (List.mem_of_getElem? (i := 115) rfl), List.forall_mem_cons.mpr ⟨tb_6 _ (List.mem_of_getElem? (i := 116) rfl), List.forall_mem_cons.mpr ⟨tb_3 _ (List.mem_of_getElem? (i := 229) rfl), List.forall_mem_cons.mpr ⟨tb_3 _ (List.mem_of_getElem? (i := 230) rfl), List.forall_mem_cons.mpr ⟨tb_3 _ (List.mem_of_getElem? (i := 231) rfl), List.forall_mem_cons.mpr ⟨tb_3 _ (List.mem_of_getElem? (i := 232) rfl), List.forall_mem_cons.mpr ⟨tb_6 _ (List.mem_of_getElem? (i := 117) rfl), List.forall_mem_cons.mpr ⟨tb_6 _ (List.mem_of_getElem? (i := 118) rfl), List.forall_mem_cons.mpr ⟨tb_6 _ (List.mem_of_getElem? (i := 119) rfl), List.forall_mem_cons.mpr ⟨tb_6 _ (List.mem_of_getElem? (i := 120) rfl), List.forall_mem_cons.mpr ⟨tb_3 _ (List.mem_of_getElem? (i := 233) rfl), List.forall_mem_cons.mpr ⟨tb_3 _ (List.mem_of_getElem? (i := 234) rfl), (fun _ h => absurd h List.not_mem_nil)⟩⟩⟩⟩⟩⟩⟩⟩⟩⟩⟩⟩⟩⟩⟩⟩⟩⟩⟩⟩⟩⟩⟩⟩
set_option maxRecDepth 100000 in
theorem wsin_wsL_law_r36 : ∀ w ∈ wsL_law_r36, w ∈ lw_tbl := List.forall_mem_cons.mpr ⟨tb_3 _ (List.mem_of_getElem? (i := 235) rfl), List.forall_mem_cons.mpr ⟨tb_3 _ (List.mem_of_getElem? (i := 236) rfl), List.forall_mem_cons.mpr ⟨tb_3 _ (List.mem_of_getElem? (i := 237) rfl), List.forall_mem_cons.mpr ⟨tb_3 _ (List.mem_of_getElem? (i := 238) rfl), List.forall_mem_cons.mpr ⟨tb_3 _ (List.mem_of_getElem? (i := 239) rfl), List.forall_mem_cons.mpr ⟨tb_4 _ (List.mem_of_getElem? (i := 0) rfl), List.forall_mem_cons.mpr ⟨tb_4 _ (List.mem_of_getElem? (i := 1) rfl), List.forall_mem_cons.mpr ⟨tb_4 _ (List.mem_of_getElem? (i := 2) rfl), List.forall_mem_cons.mpr ⟨tb_4 _ (List.mem_of_getElem? (i := 3) rfl), List.forall_mem_cons.mpr ⟨tb_4 _ (List.mem_of_getElem? (i := 4) rfl), List.forall_mem_cons.mpr ⟨tb_4 _ (List.mem_of_getElem? (i := 5) rfl), List.forall_mem_cons.mpr ⟨tb_4 _ (List.mem_of_getElem? (i := 7) rfl), List.forall_mem_cons.mpr ⟨tb_0 _ (List.mem_of_getElem? (i := 17) rfl), List.forall_mem_cons.mpr ⟨tb_4 _ (List.mem_of_getElem? (i := 8) rfl), List.forall_mem_cons.mpr ⟨tb_6 _ (List.mem_of_getElem? (i := 125) rfl), List.forall_mem_cons.mpr ⟨tb_6 _ (List.mem_of_getElem? (i := 126) rfl), List.forall_mem_cons.mpr ⟨tb_6 _ (List.mem_of_getElem? (i := 127) rfl), List.forall_mem_cons.mpr ⟨tb_6 _ (List.mem_of_getElem? (i := 128) rfl), List.forall_mem_cons.mpr ⟨tb_6 _ (List.mem_of_getElem? (i := 129) rfl), List.forall_mem_cons.mpr ⟨tb_6 _ (List.mem_of_getElem? (i := 122) rfl), List.forall_mem_cons.mpr ⟨tb_6 _ (List.mem_of_getElem? (i := 123) rfl), List.forall_mem_cons.mpr ⟨tb_6 _ (List.mem_of_getElem? (i := 124) rfl), List.forall_mem_cons.mpr ⟨tb_4 _ (List.mem_of_getElem? (i := 9) rfl), List.forall_mem_cons.mpr ⟨tb_4 _ (List.mem_of_getElem? (i := 10) rfl), (fun _ h => absurd h List.not_mem_nil)⟩⟩⟩⟩⟩⟩⟩⟩⟩⟩⟩⟩⟩⟩⟩⟩⟩⟩⟩⟩⟩⟩⟩⟩
set_option maxRecDepth 100000 in
theorem wsin_wsL_law_r37 : ∀ w ∈ wsL_law_r37, w ∈ lw_tbl := List.forall_mem_cons.mpr ⟨tb_4 _ (List.mem_of_getElem? (i := 11) rfl), List.forall_mem_cons.mpr ⟨tb_4 _ (List.mem_of_getElem? (i := 12) rfl), List.forall_mem_cons.mpr ⟨tb_6 _ (List.mem_of_getElem? (i := 121) rfl), List.forall_mem_cons.mpr ⟨tb_4 _ (List.mem_of_getElem? (i := 13) rfl), List.forall_mem_cons.mpr ⟨tb_4 _ (List.mem_of_getElem? (i := 14) rfl), List.forall_mem_cons.mpr ⟨tb_4 _ (List.mem_of_getElem? (i := 15) rfl), List.forall_mem_cons.mpr ⟨tb_4 _ (List.mem_of_getElem? (i := 16) rfl), List.forall_mem_cons.mpr ⟨tb_4 _ (List.mem_of_getElem? (i := 17) rfl), List.forall_mem_cons.mpr ⟨tb_4 _ (List.mem_of_getElem? (i := 18) rfl), List.forall_mem_cons.mpr ⟨tb_4 _ (List.mem_of_getElem? (i := 19) rfl), List.forall_mem_cons.mpr ⟨tb_4 _ (List.mem_of_getElem? (i := 20) rfl), List.forall_mem_cons.mpr ⟨tb_2 _ (List.mem_of_getElem? (i := 8) rfl), List.forall_mem_cons.mpr ⟨tb_6 _ (List.mem_of_getElem? (i := 130) rfl), List.forall_mem_cons.mpr ⟨tb_6 _ (List.mem_of_getElem? (i := 131) rfl), List.forall_mem_cons.mpr ⟨tb_6 _ (List.mem_of_getElem? (i := 132) rfl), List.forall_mem_cons.mpr ⟨tb_6 _ (List.mem_of_getElem? (i := 133) rfl), List.forall_mem_cons.mpr ⟨tb_4 _ (List.mem_of_getElem? (i := 221) rfl), List.forall_mem_cons.mpr ⟨tb_4 _ (List.mem_of_getElem? (i := 21) rfl), List.forall_mem_cons.mpr ⟨tb_4 _ (List.mem_of_getElem? (i := 22) rfl), List.forall_mem_cons.mpr ⟨tb_4 _ (List.mem_of_getElem? (i := 23) rfl), List.forall_mem_cons.mpr ⟨tb_4 _ (List.mem_of_getElem? (i := 24) rfl), List.forall_mem_cons.mpr ⟨tb_4 _ (List.mem_of_getElem? (i := 25) rfl), List.forall_mem_cons.mpr ⟨tb_4 _ (List.mem_of_getElem? (i := 26) rfl), List.forall_mem_cons.mpr ⟨tb_4 _ (List.mem_of_getElem? (i := 27) rfl), (fun _ h => absurd h List.not_mem_nil)⟩⟩⟩⟩⟩⟩⟩⟩⟩⟩⟩⟩⟩⟩⟩⟩⟩⟩⟩⟩⟩⟩⟩⟩
set_option maxRecDepth 100000 in
theorem wsin_wsL_law_r38 : ∀ w ∈ wsL_law_r38, w ∈ lw_tbl := List.forall_mem_cons.mpr ⟨tb_4 _ (List.mem_of_getElem? (i := 28) rfl), List.forall_mem_cons.mpr ⟨tb_6 _ (List.mem_of_getElem? (i := 134) rfl), List.forall_mem_cons.mpr ⟨tb_6 _ (List.mem_of_getElem? (i := 135) rfl), List.forall_mem_cons.mpr ⟨tb_6 _ (List.mem_of_getElem? (i := 136) rfl), List.forall_mem_cons.mpr ⟨tb_6 _ (List.mem_of_getElem? (i := 137) rfl), List.forall_mem_cons.mpr ⟨tb_4 _ (List.mem_of_getElem? (i := 29) rfl), List.forall_mem_cons.mpr ⟨tb_4 _ (List.mem_of_getElem? (i := 30) rfl), List.forall_mem_cons.mpr ⟨tb_4 _ (List.mem_of_getElem? (i := 31) rfl), List.forall_mem_cons.mpr ⟨tb_4 _ (List.mem_of_getElem? (i := 32) rfl), List.forall_mem_cons.mpr ⟨tb_4 _ (List.mem_of_getElem? (i := 33) rfl), List.forall_mem_cons.mpr ⟨tb_4 _ (List.mem_of_getElem? (i := 34) rfl), List.forall_mem_cons.mpr ⟨tb_4 _ (List.mem_of_getElem? (i := 35) rfl), List.forall_mem_cons.mpr ⟨tb_4 _ (List.mem_of_getElem? (i := 36) rfl), List.forall_mem_cons.mpr ⟨tb_2 _ (List.mem_of_getElem? (i := 25) rfl), List.forall_mem_cons.mpr ⟨tb_2 _ (List.mem_of_getElem? (i := 40) rfl), List.forall_mem_cons.mpr ⟨tb_2 _ (List.mem_of_getElem? (i := 42) rfl), List.forall_mem_cons.mpr ⟨tb_4 _ (List.mem_of_getElem? (i := 37) rfl), List.forall_mem_cons.mpr ⟨tb_4 _ (List.mem_of_getElem? (i := 39) rfl), List.forall_mem_cons.mpr ⟨tb_0 _ (List.mem_of_getElem? (i := 18) rfl), List.forall_mem_cons.mpr ⟨tb_4 _ (List.mem_of_getElem? (i := 40) rfl), List.forall_mem_cons.mpr ⟨tb_4 _ (List.mem_of_getElem? (i := 41) rfl), List.forall_mem_cons.mpr ⟨tb_4 _ (List.mem_of_getElem? (i := 43) rfl), List.forall_mem_cons.mpr ⟨tb_0 _ (List.mem_of_getElem? (i := 19) rfl), List.forall_mem_cons.mpr ⟨tb_4 _ (List.mem_of_getElem? (i := 44) rfl), (fun _ h => absurd h List.not_mem_nil)⟩⟩⟩⟩⟩⟩⟩⟩⟩⟩⟩⟩⟩⟩⟩⟩⟩⟩⟩⟩⟩⟩⟩⟩
set_option maxRecDepth 100000 in
theorem wsin_wsL_law_r39 : ∀ w ∈ wsL_law_r39, w ∈ lw_tbl := List.forall_mem_cons.mpr ⟨tb_4 _ (List.mem_of_getElem? (i := 45) rfl), List.forall_mem_cons.mpr ⟨tb_4 _ (List.mem_of_getElem? (i := 47) rfl), List.forall_mem_cons.mpr ⟨tb_0 _ (List.mem_of_getElem? (i := 20) rfl), List.forall_mem_cons.mpr ⟨tb_4 _ (List.mem_of_getElem? (i := 48) rfl), List.forall_mem_cons.mpr ⟨tb_4 _ (List.mem_of_getElem? (i := 50) rfl), List.forall_mem_cons.mpr ⟨tb_4 _ (List.mem_of_getElem? (i := 52) rfl), List.forall_mem_cons.mpr ⟨tb_0 _ (List.mem_of_getElem? (i := 21) rfl), List.forall_mem_cons.mpr ⟨tb_4 _ (List.mem_of_getElem? (i := 53) rfl), List.forall_mem_cons.mpr ⟨tb_4 _ (List.mem_of_getElem? (i := 54) rfl), List.forall_mem_cons.mpr ⟨tb_4 _ (List.mem_of_getElem? (i := 56) rfl), List.forall_mem_cons.mpr ⟨tb_0 _ (List.mem_of_getElem? (i := 22) rfl), List.forall_mem_cons.mpr ⟨tb_4 _ (List.mem_of_getElem? (i := 57) rfl), List.forall_mem_cons.mpr ⟨tb_4 _ (List.mem_of_getElem? (i := 58) rfl), List.forall_mem_cons.mpr ⟨tb_4 _ (List.mem_of_getElem? (i := 60) rfl), List.forall_mem_cons.mpr ⟨tb_0 _ (List.mem_of_getElem? (i := 23) rfl), List.forall_mem_cons.mpr ⟨tb_4 _ (List.mem_of_getElem? (i := 61) rfl), List.forall_mem_cons.mpr ⟨tb_4 _ (List.mem_of_getElem? (i := 62) rfl), List.forall_mem_cons.mpr ⟨tb_4 _ (List.mem_of_getElem? (i := 64) rfl), List.forall_mem_cons.mpr ⟨tb_0 _ (List.mem_of_getElem? (i := 24) rfl), List.forall_mem_cons.mpr ⟨tb_4 _ (List.mem_of_getElem? (i := 65) rfl), List.forall_mem_cons.mpr ⟨tb_4 _ (List.mem_of_getElem? (i := 66) rfl), List.forall_mem_cons.mpr ⟨tb_4 _ (List.mem_of_getElem? (i := 68) rfl), List.forall_mem_cons.mpr ⟨tb_0 _ (List.mem_of_getElem? (i := 25) rfl), List.forall_mem_cons.mpr ⟨tb_4 _ (List.mem_of_getElem? (i := 69) rfl), (fun _ h => absurd h List.not_mem_nil)⟩⟩⟩⟩⟩⟩⟩⟩⟩⟩⟩⟩⟩⟩⟩⟩⟩⟩⟩⟩⟩⟩⟩⟩
set_option maxRecDepth 100000 in
theorem wsin_wsL_law_r40 : ∀ w ∈ wsL_law_r40, w ∈ lw_tbl := List.forall_mem_cons.mpr ⟨tb_4 _ (List.mem_of_getElem? (i := 70) rfl), List.forall_mem_cons.mpr ⟨tb_4 _ (List.mem_of_getElem? (i := 72) rfl), List.forall_mem_cons.mpr ⟨tb_0 _ (List.mem_of_getElem? (i := 26) rfl), List.forall_mem_cons.mpr ⟨tb_4 _ (List.mem_of_getElem? (i := 73) rfl), List.forall_mem_cons.mpr ⟨tb_4 _ (List.mem_of_getElem? (i := 139) rfl), List.forall_mem_cons.mpr ⟨tb_4 _ (List.mem_of_getElem? (i := 75) rfl), List.forall_mem_cons.mpr ⟨tb_4 _ (List.mem_of_getElem? (i := 76) rfl), List.forall_mem_cons.mpr ⟨tb_4 _ (List.mem_of_getElem? (i := 87) rfl), List.forall_mem_cons.mpr ⟨tb_4 _ (List.mem_of_getElem? (i := 89) rfl), List.forall_mem_cons.mpr ⟨tb_0 _ (List.mem_of_getElem? (i := 27) rfl), List.forall_mem_cons.mpr ⟨tb_4 _ (List.mem_of_getElem? (i := 90) rfl), List.forall_mem_cons.mpr ⟨tb_4 _ (List.mem_of_getElem? (i := 91) rfl), List.forall_mem_cons.mpr ⟨tb_4 _ (List.mem_of_getElem? (i := 92) rfl), List.forall_mem_cons.mpr ⟨tb_4 _ (List.mem_of_getElem? (i := 93) rfl), List.forall_mem_cons.mpr ⟨tb_1 _ (List.mem_of_getElem? (i := 12) rfl), List.forall_mem_cons.mpr ⟨tb_4 _ (List.mem_of_getElem? (i := 94) rfl), List.forall_mem_cons.mpr ⟨tb_6 _ (List.mem_of_getElem? (i := 199) rfl), List.forall_mem_cons.mpr ⟨tb_4 _ (List.mem_of_getElem? (i := 95) rfl), List.forall_mem_cons.mpr ⟨tb_4 _ (List.mem_of_getElem? (i := 96) rfl), List.forall_mem_cons.mpr ⟨tb_4 _ (List.mem_of_getElem? (i := 97) rfl), List.forall_mem_cons.mpr ⟨tb_4 _ (List.mem_of_getElem? (i := 98) rfl), List.forall_mem_cons.mpr ⟨tb_4 _ (List.mem_of_getElem? (i := 99) rfl), List.forall_mem_cons.mpr ⟨tb_6 _ (List.mem_of_getElem? (i := 200) rfl), List.forall_mem_cons.mpr ⟨tb_4 _ (List.mem_of_getElem? (i := 101) rfl), (fun _ h => absurd h List.not_mem_nil)⟩⟩⟩⟩⟩⟩⟩⟩⟩⟩⟩⟩⟩⟩⟩⟩⟩⟩⟩⟩⟩⟩⟩⟩
set_option maxRecDepth 100000 in
theorem wsin_wsL_law_r41 : ∀ w ∈ wsL_law_r41, w ∈ lw_tbl := List.forall_mem_cons.mpr ⟨tb_4 _ (List.mem_of_getElem? (i := 102) rfl), List.forall_mem_cons.mpr ⟨tb_4 _ (List.mem_of_getElem? (i := 103) rfl), List.forall_mem_cons.mpr ⟨tb_4 _ (List.mem_of_getElem? (i := 104) rfl), List.forall_mem_cons.mpr ⟨tb_4 _ (List.mem_of_getElem? (i := 105) rfl), List.forall_mem_cons.mpr ⟨tb_4 _ (List.mem_of_getElem? (i := 106) rfl), List.forall_mem_cons.mpr ⟨tb_4 _ (List.mem_of_getElem? (i := 107) rfl), List.forall_mem_cons.mpr ⟨tb_4 _ (List.mem_of_getElem? (i := 108) rfl), List.forall_mem_cons.mpr ⟨tb_4 _ (List.mem_of_getElem? (i := 109) rfl), List.forall_mem_cons.mpr ⟨tb_4 _ (List.mem_of_getElem? (i := 110) rfl), List.forall_mem_cons.mpr ⟨tb_1 _ (List.mem_of_getElem? (i := 13) rfl), List.forall_mem_cons.mpr ⟨tb_4 _ (List.mem_of_getElem? (i := 111) rfl), List.forall_mem_cons.mpr ⟨tb_4 _ (List.mem_of_getElem? (i := 112) rfl), List.forall_mem_cons.mpr ⟨tb_4 _ (List.mem_of_getElem? (i := 113) rfl), List.forall_mem_cons.mpr ⟨tb_4 _ (List.mem_of_getElem? (i := 114) rfl), List.forall_mem_cons.mpr ⟨tb_4 _ (List.mem_of_getElem? (i := 115) rfl), List.forall_mem_cons.mpr ⟨tb_4 _ (List.mem_of_getElem? (i := 117) rfl), List.forall_mem_cons.mpr ⟨tb_4 _ (List.mem_of_getElem? (i := 118) rfl), List.forall_mem_cons.mpr ⟨tb_1 _ (List.mem_of_getElem? (i := 14) rfl), List.forall_mem_cons.mpr ⟨tb_4 _ (List.mem_of_getElem? (i := 119) rfl), List.forall_mem_cons.mpr ⟨tb_4 _ (List.mem_of_getElem? (i := 120) rfl), List.forall_mem_cons.mpr ⟨tb_4 _ (List.mem_of_getElem? (i := 121) rfl), List.forall_mem_cons.mpr ⟨tb_1 _ (List.mem_of_getElem? (i := 15) rfl), List.forall_mem_cons.mpr ⟨tb_4 _ (List.mem_of_getElem? (i := 122) rfl), List.forall_mem_cons.mpr ⟨tb_4 _ (List.mem_of_getElem? (i := 123) rfl), (fun _ h => absurd h List.not_mem_nil)⟩⟩⟩⟩⟩⟩⟩⟩⟩⟩⟩⟩⟩⟩⟩⟩⟩⟩⟩⟩⟩⟩⟩⟩
set_option maxRecDepth 100000 in
theorem wsin_wsL_law_r42 : ∀ w ∈ wsL_law_r42, w ∈ lw_tbl := List.forall_mem_cons.mpr ⟨tb_4 _ (List.mem_of_getElem? (i := 124) rfl), List.forall_mem_cons.mpr ⟨tb_4 _ (List.mem_of_getElem? (i := 125) rfl), List.forall_mem_cons.mpr ⟨tb_4 _ (List.mem_of_getElem? (i := 126) rfl), List.forall_mem_cons.mpr ⟨tb_4 _ (List.mem_of_getElem? (i := 127) rfl), List.forall_mem_cons.mpr ⟨tb_4 _ (List.mem_of_getElem? (i := 128) rfl), List.forall_mem_cons.mpr ⟨tb_4 _ (List.mem_of_getElem? (i := 129) rfl), List.forall_mem_cons.mpr ⟨tb_4 _ (List.mem_of_getElem? (i := 130) rfl), List.forall_mem_cons.mpr ⟨tb_4 _ (List.mem_of_getElem? (i := 131) rfl), List.forall_mem_cons.mpr ⟨tb_4 _ (List.mem_of_getElem? (i := 132) rfl), List.forall_mem_cons.mpr ⟨tb_4 _ (List.mem_of_getElem? (i := 133) rfl), List.forall_mem_cons.mpr ⟨tb_4 _ (List.mem_of_getElem? (i := 135) rfl), List.forall_mem_cons.mpr ⟨tb_4 _ (List.mem_of_getElem? (i := 137) rfl), List.forall_mem_cons.mpr ⟨tb_4 _ (List.mem_of_getElem? (i := 141) rfl), List.forall_mem_cons.mpr ⟨tb_4 _ (List.mem_of_getElem? (i := 142) rfl), List.forall_mem_cons.mpr ⟨tb_4 _ (List.mem_of_getElem? (i := 143) rfl), List.forall_mem_cons.mpr ⟨tb_4 _ (List.mem_of_getElem? (i := 145) rfl), List.forall_mem_cons.mpr ⟨tb_0 _ (List.mem_of_getElem? (i := 28) rfl), List.forall_mem_cons.mpr ⟨tb_4 _ (List.mem_of_getElem? (i := 146) rfl), List.forall_mem_cons.mpr ⟨tb_4 _ (List.mem_of_getElem? (i := 147) rfl), List.forall_mem_cons.mpr ⟨tb_4 _ (List.mem_of_getElem? (i := 148) rfl), List.forall_mem_cons.mpr ⟨tb_6 _ (List.mem_of_getElem? (i := 138) rfl), List.forall_mem_cons.mpr ⟨tb_6 _ (List.mem_of_getElem? (i := 139) rfl), List.forall_mem_cons.mpr ⟨tb_6 _ (List.mem_of_getElem? (i := 140) rfl), List.forall_mem_cons.mpr ⟨tb_6 _ (List.mem_of_getElem? (i := 141) rfl), (fun _ h => absurd h List.not_mem_nil)⟩⟩⟩⟩⟩⟩⟩⟩⟩⟩⟩⟩⟩⟩⟩⟩⟩⟩⟩⟩⟩⟩⟩⟩
set_option maxRecDepth 100000 in
theorem wsin_wsL_law_r43 : ∀ w ∈ wsL_law_r43, w ∈ lw_tbl := List.forall_mem_cons.mpr ⟨tb_4 _ (List.mem_of_getElem? (i := 222) rfl), List.forall_mem_cons.mpr ⟨tb_4 _ (List.mem_of_getElem? (i := 223) rfl), List.forall_mem_cons.mpr ⟨tb_6 _ (List.mem_of_getElem? (i := 142) rfl), List.forall_mem_cons.mpr ⟨tb_6 _ (List.mem_of_getElem? (i := 144) rfl), List.forall_mem_cons.mpr ⟨tb_0 _ (List.mem_of_getElem? (i := 51) rfl), List.forall_mem_cons.mpr ⟨tb_6 _ (List.mem_of_getElem? (i := 145) rfl), List.forall_mem_cons.mpr ⟨tb_4 _ (List.mem_of_getElem? (i := 224) rfl), List.forall_mem_cons.mpr ⟨tb_6 _ (List.mem_of_getElem? (i := 146) rfl), List.forall_mem_cons.mpr ⟨tb_6 _ (List.mem_of_getElem? (i := 148) rfl), List.forall_mem_cons.mpr ⟨tb_0 _ (List.mem_of_getElem? (i := 52) rfl), List.forall_mem_cons.mpr ⟨tb_6 _ (List.mem_of_getElem? (i := 149) rfl), List.forall_mem_cons.mpr ⟨tb_6 _ (List.mem_of_getElem? (i := 150) rfl), List.forall_mem_cons.mpr ⟨tb_6 _ (List.mem_of_getElem? (i := 152) rfl), List.forall_mem_cons.mpr ⟨tb_0 _ (List.mem_of_getElem? (i := 53) rfl), List.forall_mem_cons.mpr ⟨tb_6 _ (List.mem_of_getElem? (i := 153) rfl), List.forall_mem_cons.mpr ⟨tb_6 _ (List.mem_of_getElem? (i := 154) rfl), List.forall_mem_cons.mpr ⟨tb_6 _ (List.mem_of_getElem? (i := 156) rfl), List.forall_mem_cons.mpr ⟨tb_0 _ (List.mem_of_getElem? (i := 54) rfl), List.forall_mem_cons.mpr ⟨tb_6 _ (List.mem_of_getElem? (i := 157) rfl), List.forall_mem_cons.mpr ⟨tb_6 _ (List.mem_of_getElem? (i := 158) rfl), List.forall_mem_cons.mpr ⟨tb_6 _ (List.mem_of_getElem? (i := 160) rfl), List.forall_mem_cons.mpr ⟨tb_0 _ (List.mem_of_getElem? (i := 55) rfl), List.forall_mem_cons.mpr ⟨tb_6 _ (List.mem_of_getElem? (i := 161) rfl), List.forall_mem_cons.mpr ⟨tb_6 _ (List.mem_of_getElem? (i := 162) rfl), (fun _ h => absurd h List.not_mem_nil)⟩⟩⟩⟩⟩⟩⟩⟩⟩⟩⟩⟩⟩⟩⟩⟩⟩⟩⟩⟩⟩⟩⟩⟩
set_option maxRecDepth 100000 in
theorem wsin_wsL_law_r44 : ∀ w ∈ wsL_law_r44, w ∈ lw_tbl := List.forall_mem_cons.mpr ⟨tb_6 _ (List.mem_of_getElem? (i := 164) rfl), List.forall_mem_cons.mpr ⟨tb_0 _ (List.mem_of_getElem? (i := 56) rfl), List.forall_mem_cons.mpr ⟨tb_6 _ (List.mem_of_getElem? (i := 165) rfl), List.forall_mem_cons.mpr ⟨tb_6 _ (List.mem_of_getElem? (i := 166) rfl), List.forall_mem_cons.mpr ⟨tb_6 _ (List.mem_of_getElem? (i := 168) rfl), List.forall_mem_cons.mpr ⟨tb_0 _ (List.mem_of_getElem? (i := 57) rfl), List.forall_mem_cons.mpr ⟨tb_6 _ (List.mem_of_getElem? (i := 169) rfl), List.forall_mem_cons.mpr ⟨tb_6 _ (List.mem_of_getElem? (i := 170) rfl), List.forall_mem_cons.mpr ⟨tb_6 _ (List.mem_of_getElem? (i := 172) rfl), List.forall_mem_cons.mpr ⟨tb_0 _ (List.mem_of_getElem? (i := 58) rfl), List.forall_mem_cons.mpr ⟨tb_6 _ (List.mem_of_getElem? (i := 173) rfl), List.forall_mem_cons.mpr ⟨tb_6 _ (List.mem_of_getElem? (i := 174) rfl), List.forall_mem_cons.mpr ⟨tb_6 _ (List.mem_of_getElem? (i := 175) rfl), List.forall_mem_cons.mpr ⟨tb_6 _ (List.mem_of_getElem? (i := 176) rfl), List.forall_mem_cons.mpr ⟨tb_6 _ (List.mem_of_getElem? (i := 177) rfl), List.forall_mem_cons.mpr ⟨tb_6 _ (List.mem_of_getElem? (i := 179) rfl), List.forall_mem_cons.mpr ⟨tb_0 _ (List.mem_of_getElem? (i := 59) rfl), List.forall_mem_cons.mpr ⟨tb_6 _ (List.mem_of_getElem? (i := 180) rfl), List.forall_mem_cons.mpr ⟨tb_6 _ (List.mem_of_getElem? (i := 181) rfl), List.forall_mem_cons.mpr ⟨tb_6 _ (List.mem_of_getElem? (i := 182) rfl), List.forall_mem_cons.mpr ⟨tb_4 _ (List.mem_of_getElem? (i := 150) rfl), List.forall_mem_cons.mpr ⟨tb_4 _ (List.mem_of_getElem? (i := 151) rfl), List.forall_mem_cons.mpr ⟨tb_4 _ (List.mem_of_getElem? (i := 152) rfl), List.forall_mem_cons.mpr ⟨tb_4 _ (List.mem_of_getElem? (i := 153) rfl), (fun _ h => absurd h List.not_mem_nil)⟩⟩⟩⟩⟩⟩⟩⟩⟩⟩⟩⟩⟩⟩⟩⟩⟩⟩⟩⟩⟩⟩⟩⟩
set_option maxRecDepth 100000 in
theorem wsin_wsL_law_r45 : ∀ w ∈ wsL_law_r45, w ∈ lw_tbl := List.forall_mem_cons.mpr ⟨tb_4 _ (List.mem_of_getElem? (i := 154) rfl), List.forall_mem_cons.mpr ⟨tb_4 _ (List.mem_of_getElem? (i := 155) rfl), List.forall_mem_cons.mpr ⟨tb_4 _ (List.mem_of_getElem? (i := 156) rfl), List.forall_mem_cons.mpr ⟨tb_4 _ (List.mem_of_getElem? (i := 157) rfl), List.forall_mem_cons.mpr ⟨tb_4 _ (List.mem_of_getElem? (i := 158) rfl), List.forall_mem_cons.mpr ⟨tb_4 _ (List.mem_of_getElem? (i := 159) rfl), List.forall_mem_cons.mpr ⟨tb_4 _ (List.mem_of_getElem? (i := 160) rfl), List.forall_mem_cons.mpr ⟨tb_4 _ (List.mem_of_getElem? (i := 161) rfl), List.forall_mem_cons.mpr ⟨tb_4 _ (List.mem_of_getElem? (i := 162) rfl), List.forall_mem_cons.mpr ⟨tb_4 _ (List.mem_of_getElem? (i := 164) rfl), List.forall_mem_cons.mpr ⟨tb_4 _ (List.mem_of_getElem? (i := 163) rfl), List.forall_mem_cons.mpr ⟨tb_1 _ (List.mem_of_getElem? (i := 16) rfl), List.forall_mem_cons.mpr ⟨tb_4 _ (List.mem_of_getElem? (i := 165) rfl), List.forall_mem_cons.mpr ⟨tb_4 _ (List.mem_of_getElem? (i := 166) rfl), List.forall_mem_cons.mpr ⟨tb_4 _ (List.mem_of_getElem? (i := 167) rfl), List.forall_mem_cons.mpr ⟨tb_4 _ (List.mem_of_getElem? (i := 168) rfl), List.forall_mem_cons.mpr ⟨tb_4 _ (List.mem_of_getElem? (i := 169) rfl), List.forall_mem_cons.mpr ⟨tb_4 _ (List.mem_of_getElem? (i := 170) rfl), List.forall_mem_cons.mpr ⟨tb_4 _ (List.mem_of_getElem? (i := 171) rfl), List.forall_mem_cons.mpr ⟨tb_4 _ (List.mem_of_getElem? (i := 172) rfl), List.forall_mem_cons.mpr ⟨tb_4 _ (List.mem_of_getElem? (i := 173) rfl), List.forall_mem_cons.mpr ⟨tb_4 _ (List.mem_of_getElem? (i := 174) rfl), List.forall_mem_cons.mpr ⟨tb_6 _ (List.mem_of_getElem? (i := 183) rfl), List.forall_mem_cons.mpr ⟨tb_6 _ (List.mem_of_getElem? (i := 184) rfl), (fun _ h => absurd h List.not_mem_nil)⟩⟩⟩⟩⟩⟩⟩⟩⟩⟩⟩⟩⟩⟩⟩⟩⟩⟩⟩⟩⟩⟩⟩⟩
set_option maxRecDepth 100000 in
theorem wsin_wsL_law_r46 : ∀ w ∈ wsL_law_r46, w ∈ lw_tbl := List.forall_mem_cons.mpr ⟨tb_6 _ (List.mem_of_getElem? (i := 185) rfl), List.forall_mem_cons.mpr ⟨tb_6 _ (List.mem_of_getElem? (i := 186) rfl), List.forall_mem_cons.mpr ⟨tb_4 _ (List.mem_of_getElem? (i := 226) rfl), List.forall_mem_cons.mpr ⟨tb_6 _ (List.mem_of_getElem? (i := 187) rfl), List.forall_mem_cons.mpr ⟨tb_6 _ (List.mem_of_getElem? (i := 189) rfl), List.forall_mem_cons.mpr ⟨tb_0 _ (List.mem_of_getElem? (i := 60) rfl), List.forall_mem_cons.mpr ⟨tb_6 _ (List.mem_of_getElem? (i := 190) rfl), List.forall_mem_cons.mpr ⟨tb_4 _ (List.mem_of_getElem? (i := 228) rfl), List.forall_mem_cons.mpr ⟨tb_6 _ (List.mem_of_getElem? (i := 191) rfl), List.forall_mem_cons.mpr ⟨tb_6 _ (List.mem_of_getElem? (i := 193) rfl), List.forall_mem_cons.mpr ⟨tb_0 _ (List.mem_of_getElem? (i := 61) rfl), List.forall_mem_cons.mpr ⟨tb_6 _ (List.mem_of_getElem? (i := 194) rfl), List.forall_mem_cons.mpr ⟨tb_4 _ (List.mem_of_getElem? (i := 175) rfl), List.forall_mem_cons.mpr ⟨tb_4 _ (List.mem_of_getElem? (i := 176) rfl), List.forall_mem_cons.mpr ⟨tb_4 _ (List.mem_of_getElem? (i := 177) rfl), List.forall_mem_cons.mpr ⟨tb_4 _ (List.mem_of_getElem? (i := 178) rfl), List.forall_mem_cons.mpr ⟨tb_6 _ (List.mem_of_getElem? (i := 195) rfl), List.forall_mem_cons.mpr ⟨tb_6 _ (List.mem_of_getElem? (i := 196) rfl), List.forall_mem_cons.mpr ⟨tb_6 _ (List.mem_of_getElem? (i := 197) rfl), List.forall_mem_cons.mpr ⟨tb_6 _ (List.mem_of_getElem? (i := 198) rfl), (fun _ h => absurd h List.not_mem_nil)⟩⟩⟩⟩⟩⟩⟩⟩⟩⟩⟩⟩⟩⟩⟩⟩⟩⟩⟩⟩
def wl_wsX80 : List Cond := [Cond.laysFinal "LinearizabilityChecker" "LinearizabilityChecker" "current" "LLinearizabilityChecker$Recording;", Cond.laysFinal "LinearizabilityChecker" "LinearizabilityChecker" "saved" "LLinearizabilityChecker$Recording;", Cond.laysFinal "LinearizabilityChecker" "LinearizabilityChecker" "search" "LLinearizabilityChecker$Search;", Cond.laysFinal "LinearizabilityChecker" "LinearizabilityChecker" "text" "LLinearizabilityChecker$TextBuffer;", Cond.laysFinal "LinearizabilityChecker" "LinearizabilityChecker" "parser" "LLinearizabilityChecker$Parser;", Cond.lays "LinearizabilityChecker" "LinearizabilityChecker" "hasSnapshot" "Z"]
theorem we_wsX80 : wsX80 = wl_wsX80 := by decide +kernel
set_option maxRecDepth 100000 in
theorem wsin_wsX80 : ∀ w ∈ wsX80, w ∈ lw_tbl := we_wsX80 ▸ (List.forall_mem_cons.mpr ⟨tb_2 _ (List.mem_of_getElem? (i := 70) rfl), List.forall_mem_cons.mpr ⟨tb_2 _ (List.mem_of_getElem? (i := 72) rfl), List.forall_mem_cons.mpr ⟨tb_2 _ (List.mem_of_getElem? (i := 74) rfl), List.forall_mem_cons.mpr ⟨tb_2 _ (List.mem_of_getElem? (i := 76) rfl), List.forall_mem_cons.mpr ⟨tb_2 _ (List.mem_of_getElem? (i := 78) rfl), List.forall_mem_cons.mpr ⟨tb_2 _ (List.mem_of_getElem? (i := 80) rfl), (fun _ h => absurd h List.not_mem_nil)⟩⟩⟩⟩⟩⟩ : ∀ w ∈ wl_wsX80, w ∈ lw_tbl)
def wl_wsX90 : List Cond := [Cond.lays "LinearizabilityCheckerModel" "LinearizabilityCheckerModel" "objects" "I", Cond.laysFinal "LinearizabilityCheckerModel" "LinearizabilityCheckerModel" "types" "[I", Cond.laysFinal "LinearizabilityCheckerModel" "LinearizabilityCheckerModel" "initials" "[I", Cond.lays "LinearizabilityCheckerModel" "LinearizabilityCheckerModel" "operations" "I", Cond.laysFinal "LinearizabilityCheckerModel" "LinearizabilityCheckerModel" "kinds" "[I", Cond.laysFinal "LinearizabilityCheckerModel" "LinearizabilityCheckerModel" "threads" "[I", Cond.laysFinal "LinearizabilityCheckerModel" "LinearizabilityCheckerModel" "targets" "[I", Cond.laysFinal "LinearizabilityCheckerModel" "LinearizabilityCheckerModel" "firsts" "[I", Cond.laysFinal "LinearizabilityCheckerModel" "LinearizabilityCheckerModel" "seconds" "[I", Cond.laysFinal "LinearizabilityCheckerModel" "LinearizabilityCheckerModel" "invocations" "[I", Cond.laysFinal "LinearizabilityCheckerModel" "LinearizabilityCheckerModel" "responses" "[I", Cond.laysFinal "LinearizabilityCheckerModel" "LinearizabilityCheckerModel" "results" "[I", Cond.lays "LinearizabilityCheckerModel" "LinearizabilityCheckerModel" "events" "I", Cond.laysFinal "LinearizabilityCheckerModel" "LinearizabilityCheckerModel" "eventTypes" "[I", Cond.laysFinal "LinearizabilityCheckerModel" "LinearizabilityCheckerModel" "eventThreads" "[I", Cond.laysFinal "LinearizabilityCheckerModel" "LinearizabilityCheckerModel" "eventOperations" "[I", Cond.lays "LinearizabilityCheckerModel" "LinearizabilityCheckerModel" "ordered" "I", Cond.laysFinal "LinearizabilityCheckerModel" "LinearizabilityCheckerModel" "order" "[I", Cond.laysFinal "LinearizabilityCheckerModel" "LinearizabilityCheckerModel" "chains" "[I", Cond.laysFinal "LinearizabilityCheckerModel" "LinearizabilityCheckerModel" "stored" "[I", Cond.laysFinal "LinearizabilityCheckerModel" "LinearizabilityCheckerModel" "queues" "[I", Cond.laysFinal "LinearizabilityCheckerModel" "LinearizabilityCheckerModel" "heads" "[I", Cond.laysFinal "LinearizabilityCheckerModel" "LinearizabilityCheckerModel" "tails" "[I", Cond.laysFinal "LinearizabilityCheckerModel" "LinearizabilityCheckerModel" "members" "[Z", Cond.lays "LinearizabilityCheckerModel" "LinearizabilityCheckerModel" "limit" "I", Cond.lays "LinearizabilityCheckerModel" "LinearizabilityCheckerModel" "onlyObject" "I", Cond.lays "LinearizabilityCheckerModel" "LinearizabilityCheckerModel" "isProgramOrder" "Z", Cond.lays "LinearizabilityCheckerModel" "LinearizabilityCheckerModel" "isCounting" "Z", Cond.lays "LinearizabilityCheckerModel" "LinearizabilityCheckerModel" "wanted" "I", Cond.lays "LinearizabilityCheckerModel" "LinearizabilityCheckerModel" "found" "I", Cond.lays "LinearizabilityCheckerModel" "LinearizabilityCheckerModel" "length" "I", Cond.laysFinal "LinearizabilityCheckerModel" "LinearizabilityCheckerModel" "sequence" "[I", Cond.laysFinal "LinearizabilityCheckerModel" "LinearizabilityCheckerModel" "first" "[I", Cond.laysFinal "LinearizabilityCheckerModel" "LinearizabilityCheckerModel" "seen" "[Z", Cond.laysFinal "LinearizabilityCheckerModel" "LinearizabilityCheckerModel" "names" "[C", Cond.laysFinal "LinearizabilityCheckerModel" "LinearizabilityCheckerModel" "text" "[I", Cond.lays "LinearizabilityCheckerModel" "LinearizabilityCheckerModel" "size" "I", Cond.lays "LinearizabilityCheckerModel" "LinearizabilityCheckerModel" "end" "I", Cond.lays "LinearizabilityCheckerModel" "LinearizabilityCheckerModel" "at" "I", Cond.lays "LinearizabilityCheckerModel" "LinearizabilityCheckerModel" "kind" "I", Cond.laysFinal "LinearizabilityCheckerModel" "LinearizabilityCheckerModel" "parsed" "[I", Cond.lays "LinearizabilityCheckerModel" "LinearizabilityCheckerModel" "isSaved" "Z", Cond.laysFinal "LinearizabilityCheckerModel" "LinearizabilityCheckerModel" "saved" "[I", Cond.lays "LinearizabilityCheckerModel" "LinearizabilityCheckerModel" "next" "I"]
theorem we_wsX90 : wsX90 = wl_wsX90 := by decide +kernel
set_option maxRecDepth 100000 in
theorem wsin_wsX90 : ∀ w ∈ wsX90, w ∈ lw_tbl := we_wsX90 ▸ (List.forall_mem_cons.mpr ⟨tb_4 _ (List.mem_of_getElem? (i := 229) rfl), List.forall_mem_cons.mpr ⟨tb_4 _ (List.mem_of_getElem? (i := 231) rfl), List.forall_mem_cons.mpr ⟨tb_4 _ (List.mem_of_getElem? (i := 233) rfl), List.forall_mem_cons.mpr ⟨tb_4 _ (List.mem_of_getElem? (i := 235) rfl), List.forall_mem_cons.mpr ⟨tb_4 _ (List.mem_of_getElem? (i := 237) rfl), List.forall_mem_cons.mpr ⟨tb_4 _ (List.mem_of_getElem? (i := 239) rfl), List.forall_mem_cons.mpr ⟨tb_5 _ (List.mem_of_getElem? (i := 1) rfl), List.forall_mem_cons.mpr ⟨tb_5 _ (List.mem_of_getElem? (i := 3) rfl), List.forall_mem_cons.mpr ⟨tb_5 _ (List.mem_of_getElem? (i := 5) rfl), List.forall_mem_cons.mpr ⟨tb_5 _ (List.mem_of_getElem? (i := 7) rfl), List.forall_mem_cons.mpr ⟨tb_5 _ (List.mem_of_getElem? (i := 9) rfl), List.forall_mem_cons.mpr ⟨tb_5 _ (List.mem_of_getElem? (i := 11) rfl), List.forall_mem_cons.mpr ⟨tb_5 _ (List.mem_of_getElem? (i := 13) rfl), List.forall_mem_cons.mpr ⟨tb_5 _ (List.mem_of_getElem? (i := 15) rfl), List.forall_mem_cons.mpr ⟨tb_5 _ (List.mem_of_getElem? (i := 17) rfl), List.forall_mem_cons.mpr ⟨tb_5 _ (List.mem_of_getElem? (i := 19) rfl), List.forall_mem_cons.mpr ⟨tb_5 _ (List.mem_of_getElem? (i := 21) rfl), List.forall_mem_cons.mpr ⟨tb_5 _ (List.mem_of_getElem? (i := 23) rfl), List.forall_mem_cons.mpr ⟨tb_5 _ (List.mem_of_getElem? (i := 25) rfl), List.forall_mem_cons.mpr ⟨tb_5 _ (List.mem_of_getElem? (i := 27) rfl), List.forall_mem_cons.mpr ⟨tb_5 _ (List.mem_of_getElem? (i := 29) rfl), List.forall_mem_cons.mpr ⟨tb_5 _ (List.mem_of_getElem? (i := 31) rfl), List.forall_mem_cons.mpr ⟨tb_5 _ (List.mem_of_getElem? (i := 33) rfl), List.forall_mem_cons.mpr ⟨tb_5 _ (List.mem_of_getElem? (i := 35) rfl), List.forall_mem_cons.mpr ⟨tb_5 _ (List.mem_of_getElem? (i := 37) rfl), List.forall_mem_cons.mpr ⟨tb_5 _ (List.mem_of_getElem? (i := 39) rfl), List.forall_mem_cons.mpr ⟨tb_5 _ (List.mem_of_getElem? (i := 41) rfl), List.forall_mem_cons.mpr ⟨tb_5 _ (List.mem_of_getElem? (i := 43) rfl), List.forall_mem_cons.mpr ⟨tb_5 _ (List.mem_of_getElem? (i := 45) rfl), List.forall_mem_cons.mpr ⟨tb_5 _ (List.mem_of_getElem? (i := 47) rfl), List.forall_mem_cons.mpr ⟨tb_5 _ (List.mem_of_getElem? (i := 49) rfl), List.forall_mem_cons.mpr ⟨tb_5 _ (List.mem_of_getElem? (i := 51) rfl), List.forall_mem_cons.mpr ⟨tb_5 _ (List.mem_of_getElem? (i := 53) rfl), List.forall_mem_cons.mpr ⟨tb_5 _ (List.mem_of_getElem? (i := 55) rfl), List.forall_mem_cons.mpr ⟨tb_5 _ (List.mem_of_getElem? (i := 57) rfl), List.forall_mem_cons.mpr ⟨tb_5 _ (List.mem_of_getElem? (i := 59) rfl), List.forall_mem_cons.mpr ⟨tb_5 _ (List.mem_of_getElem? (i := 61) rfl), List.forall_mem_cons.mpr ⟨tb_5 _ (List.mem_of_getElem? (i := 63) rfl), List.forall_mem_cons.mpr ⟨tb_5 _ (List.mem_of_getElem? (i := 65) rfl), List.forall_mem_cons.mpr ⟨tb_5 _ (List.mem_of_getElem? (i := 67) rfl), List.forall_mem_cons.mpr ⟨tb_5 _ (List.mem_of_getElem? (i := 69) rfl), List.forall_mem_cons.mpr ⟨tb_5 _ (List.mem_of_getElem? (i := 71) rfl), List.forall_mem_cons.mpr ⟨tb_5 _ (List.mem_of_getElem? (i := 73) rfl), List.forall_mem_cons.mpr ⟨tb_5 _ (List.mem_of_getElem? (i := 75) rfl), (fun _ h => absurd h List.not_mem_nil)⟩⟩⟩⟩⟩⟩⟩⟩⟩⟩⟩⟩⟩⟩⟩⟩⟩⟩⟩⟩⟩⟩⟩⟩⟩⟩⟩⟩⟩⟩⟩⟩⟩⟩⟩⟩⟩⟩⟩⟩⟩⟩⟩⟩ : ∀ w ∈ wl_wsX90, w ∈ lw_tbl)
def wl_wsX40 : List Cond := [Cond.laysFinal "LinearizabilityChecker$Recording" "LinearizabilityChecker$Recording" "objects" "LLinearizabilityChecker$ObjectTable;", Cond.laysFinal "LinearizabilityChecker$Recording" "LinearizabilityChecker$Recording" "history" "LLinearizabilityChecker$History;", Cond.laysFinal "LinearizabilityChecker$Recording" "LinearizabilityChecker$Recording" "order" "LLinearizabilityChecker$OrderBuffer;"]
theorem we_wsX40 : wsX40 = wl_wsX40 := by decide +kernel
set_option maxRecDepth 100000 in
theorem wsin_wsX40 : ∀ w ∈ wsX40, w ∈ lw_tbl := we_wsX40 ▸ (List.forall_mem_cons.mpr ⟨tb_1 _ (List.mem_of_getElem? (i := 157) rfl), List.forall_mem_cons.mpr ⟨tb_1 _ (List.mem_of_getElem? (i := 159) rfl), List.forall_mem_cons.mpr ⟨tb_1 _ (List.mem_of_getElem? (i := 161) rfl), (fun _ h => absurd h List.not_mem_nil)⟩⟩⟩ : ∀ w ∈ wl_wsX40, w ∈ lw_tbl)
def wl_wsX50 : List Cond := [Cond.laysFinal "LinearizabilityChecker$Search" "LinearizabilityChecker$Search" "objects" "LLinearizabilityChecker$ObjectTable;", Cond.laysFinal "LinearizabilityChecker$Search" "LinearizabilityChecker$Search" "history" "LLinearizabilityChecker$History;", Cond.laysFinal "LinearizabilityChecker$Search" "LinearizabilityChecker$Search" "states" "[LLinearizabilityChecker$SharedState;", Cond.lays "LinearizabilityChecker$Search" "LinearizabilityChecker$Search" "allowed" "I", Cond.lays "LinearizabilityChecker$Search" "LinearizabilityChecker$Search" "required" "I", Cond.lays "LinearizabilityChecker$Search" "LinearizabilityChecker$Search" "compared" "I", Cond.laysFinal "LinearizabilityChecker$Search" "LinearizabilityChecker$Search" "expected" "[I", Cond.laysFinal "LinearizabilityChecker$Search" "LinearizabilityChecker$Search" "before" "[I", Cond.laysFinal "LinearizabilityChecker$Search" "LinearizabilityChecker$Search" "sequence" "[I", Cond.lays "LinearizabilityChecker$Search" "LinearizabilityChecker$Search" "foundLength" "I", Cond.lays "LinearizabilityChecker$Search" "LinearizabilityChecker$Search" "found" "I", Cond.lays "LinearizabilityChecker$Search" "LinearizabilityChecker$Search" "onlyFirst" "Z", Cond.lays "LinearizabilityChecker$Search" "LinearizabilityChecker$Search" "watched" "I", Cond.lays "LinearizabilityChecker$Search" "LinearizabilityChecker$Search" "watchedResult" "I", Cond.laysFinal "LinearizabilityChecker$Search" "LinearizabilityChecker$Search" "reached" "[Z"]
theorem we_wsX50 : wsX50 = wl_wsX50 := by decide +kernel
set_option maxRecDepth 100000 in
theorem wsin_wsX50 : ∀ w ∈ wsX50, w ∈ lw_tbl := we_wsX50 ▸ (List.forall_mem_cons.mpr ⟨tb_1 _ (List.mem_of_getElem? (i := 211) rfl), List.forall_mem_cons.mpr ⟨tb_1 _ (List.mem_of_getElem? (i := 213) rfl), List.forall_mem_cons.mpr ⟨tb_1 _ (List.mem_of_getElem? (i := 215) rfl), List.forall_mem_cons.mpr ⟨tb_1 _ (List.mem_of_getElem? (i := 217) rfl), List.forall_mem_cons.mpr ⟨tb_1 _ (List.mem_of_getElem? (i := 219) rfl), List.forall_mem_cons.mpr ⟨tb_1 _ (List.mem_of_getElem? (i := 221) rfl), List.forall_mem_cons.mpr ⟨tb_1 _ (List.mem_of_getElem? (i := 223) rfl), List.forall_mem_cons.mpr ⟨tb_1 _ (List.mem_of_getElem? (i := 225) rfl), List.forall_mem_cons.mpr ⟨tb_1 _ (List.mem_of_getElem? (i := 227) rfl), List.forall_mem_cons.mpr ⟨tb_1 _ (List.mem_of_getElem? (i := 229) rfl), List.forall_mem_cons.mpr ⟨tb_1 _ (List.mem_of_getElem? (i := 231) rfl), List.forall_mem_cons.mpr ⟨tb_1 _ (List.mem_of_getElem? (i := 233) rfl), List.forall_mem_cons.mpr ⟨tb_1 _ (List.mem_of_getElem? (i := 235) rfl), List.forall_mem_cons.mpr ⟨tb_1 _ (List.mem_of_getElem? (i := 237) rfl), List.forall_mem_cons.mpr ⟨tb_1 _ (List.mem_of_getElem? (i := 239) rfl), (fun _ h => absurd h List.not_mem_nil)⟩⟩⟩⟩⟩⟩⟩⟩⟩⟩⟩⟩⟩⟩⟩ : ∀ w ∈ wl_wsX50, w ∈ lw_tbl)
def wl_wsX70 : List Cond := [Cond.lays "LinearizabilityChecker$TextBuffer" "LinearizabilityChecker$TextBuffer" "length" "I", Cond.laysFinal "LinearizabilityChecker$TextBuffer" "LinearizabilityChecker$TextBuffer" "characters" "[C"]
theorem we_wsX70 : wsX70 = wl_wsX70 := by decide +kernel
set_option maxRecDepth 100000 in
theorem wsin_wsX70 : ∀ w ∈ wsX70, w ∈ lw_tbl := we_wsX70 ▸ (List.forall_mem_cons.mpr ⟨tb_2 _ (List.mem_of_getElem? (i := 13) rfl), List.forall_mem_cons.mpr ⟨tb_2 _ (List.mem_of_getElem? (i := 15) rfl), (fun _ h => absurd h List.not_mem_nil)⟩⟩ : ∀ w ∈ wl_wsX70, w ∈ lw_tbl)
def wl_wsX30 : List Cond := [Cond.lays "LinearizabilityChecker$Parser" "LinearizabilityChecker$Parser" "commands" "I", Cond.laysFinal "LinearizabilityChecker$Parser" "LinearizabilityChecker$Parser" "forms" "[I", Cond.laysFinal "LinearizabilityChecker$Parser" "LinearizabilityChecker$Parser" "threads" "[I", Cond.laysFinal "LinearizabilityChecker$Parser" "LinearizabilityChecker$Parser" "objects" "[I", Cond.laysFinal "LinearizabilityChecker$Parser" "LinearizabilityChecker$Parser" "kinds" "[I", Cond.laysFinal "LinearizabilityChecker$Parser" "LinearizabilityChecker$Parser" "firstNumbers" "[I", Cond.laysFinal "LinearizabilityChecker$Parser" "LinearizabilityChecker$Parser" "secondNumbers" "[I", Cond.laysFinal "LinearizabilityChecker$Parser" "LinearizabilityChecker$Parser" "text" "LLinearizabilityChecker$TextBuffer;", Cond.lays "LinearizabilityChecker$Parser" "LinearizabilityChecker$Parser" "position" "I", Cond.lays "LinearizabilityChecker$Parser" "LinearizabilityChecker$Parser" "failed" "Z"]
theorem we_wsX30 : wsX30 = wl_wsX30 := by decide +kernel
set_option maxRecDepth 100000 in
theorem wsin_wsX30 : ∀ w ∈ wsX30, w ∈ lw_tbl := we_wsX30 ▸ (List.forall_mem_cons.mpr ⟨tb_2 _ (List.mem_of_getElem? (i := 43) rfl), List.forall_mem_cons.mpr ⟨tb_2 _ (List.mem_of_getElem? (i := 45) rfl), List.forall_mem_cons.mpr ⟨tb_2 _ (List.mem_of_getElem? (i := 47) rfl), List.forall_mem_cons.mpr ⟨tb_2 _ (List.mem_of_getElem? (i := 49) rfl), List.forall_mem_cons.mpr ⟨tb_2 _ (List.mem_of_getElem? (i := 51) rfl), List.forall_mem_cons.mpr ⟨tb_2 _ (List.mem_of_getElem? (i := 53) rfl), List.forall_mem_cons.mpr ⟨tb_2 _ (List.mem_of_getElem? (i := 55) rfl), List.forall_mem_cons.mpr ⟨tb_2 _ (List.mem_of_getElem? (i := 57) rfl), List.forall_mem_cons.mpr ⟨tb_2 _ (List.mem_of_getElem? (i := 59) rfl), List.forall_mem_cons.mpr ⟨tb_2 _ (List.mem_of_getElem? (i := 61) rfl), (fun _ h => absurd h List.not_mem_nil)⟩⟩⟩⟩⟩⟩⟩⟩⟩⟩ : ∀ w ∈ wl_wsX30, w ∈ lw_tbl)
def wl_wsX10 : List Cond := [Cond.lays "LinearizabilityChecker$ObjectTable" "LinearizabilityChecker$ObjectTable" "count" "I", Cond.laysFinal "LinearizabilityChecker$ObjectTable" "LinearizabilityChecker$ObjectTable" "types" "[I", Cond.laysFinal "LinearizabilityChecker$ObjectTable" "LinearizabilityChecker$ObjectTable" "initials" "[I"]
theorem we_wsX10 : wsX10 = wl_wsX10 := by decide +kernel
set_option maxRecDepth 100000 in
theorem wsin_wsX10 : ∀ w ∈ wsX10, w ∈ lw_tbl := we_wsX10 ▸ (List.forall_mem_cons.mpr ⟨tb_1 _ (List.mem_of_getElem? (i := 45) rfl), List.forall_mem_cons.mpr ⟨tb_1 _ (List.mem_of_getElem? (i := 47) rfl), List.forall_mem_cons.mpr ⟨tb_1 _ (List.mem_of_getElem? (i := 49) rfl), (fun _ h => absurd h List.not_mem_nil)⟩⟩⟩ : ∀ w ∈ wl_wsX10, w ∈ lw_tbl)
def wl_wsX00 : List Cond := [Cond.lays "LinearizabilityChecker$History" "LinearizabilityChecker$History" "events" "I", Cond.laysFinal "LinearizabilityChecker$History" "LinearizabilityChecker$History" "eventForms" "[I", Cond.laysFinal "LinearizabilityChecker$History" "LinearizabilityChecker$History" "eventThreads" "[I", Cond.laysFinal "LinearizabilityChecker$History" "LinearizabilityChecker$History" "eventOperations" "[I", Cond.lays "LinearizabilityChecker$History" "LinearizabilityChecker$History" "operations" "I", Cond.laysFinal "LinearizabilityChecker$History" "LinearizabilityChecker$History" "kinds" "[I", Cond.laysFinal "LinearizabilityChecker$History" "LinearizabilityChecker$History" "threads" "[I", Cond.laysFinal "LinearizabilityChecker$History" "LinearizabilityChecker$History" "objects" "[I", Cond.laysFinal "LinearizabilityChecker$History" "LinearizabilityChecker$History" "firstArguments" "[I", Cond.laysFinal "LinearizabilityChecker$History" "LinearizabilityChecker$History" "secondArguments" "[I", Cond.laysFinal "LinearizabilityChecker$History" "LinearizabilityChecker$History" "invokedAt" "[I", Cond.laysFinal "LinearizabilityChecker$History" "LinearizabilityChecker$History" "respondedAt" "[I", Cond.laysFinal "LinearizabilityChecker$History" "LinearizabilityChecker$History" "results" "[I", Cond.laysFinal "LinearizabilityChecker$History" "LinearizabilityChecker$History" "pendingOperation" "[I", Cond.laysFinal "LinearizabilityChecker$History" "LinearizabilityChecker$History" "crashed" "[Z", Cond.laysFinal "LinearizabilityChecker$History" "LinearizabilityChecker$History" "chains" "[I"]
theorem we_wsX00 : wsX00 = wl_wsX00 := by decide +kernel
set_option maxRecDepth 100000 in
theorem wsin_wsX00 : ∀ w ∈ wsX00, w ∈ lw_tbl := we_wsX00 ▸ (List.forall_mem_cons.mpr ⟨tb_1 _ (List.mem_of_getElem? (i := 98) rfl), List.forall_mem_cons.mpr ⟨tb_1 _ (List.mem_of_getElem? (i := 100) rfl), List.forall_mem_cons.mpr ⟨tb_1 _ (List.mem_of_getElem? (i := 102) rfl), List.forall_mem_cons.mpr ⟨tb_1 _ (List.mem_of_getElem? (i := 104) rfl), List.forall_mem_cons.mpr ⟨tb_1 _ (List.mem_of_getElem? (i := 106) rfl), List.forall_mem_cons.mpr ⟨tb_1 _ (List.mem_of_getElem? (i := 108) rfl), List.forall_mem_cons.mpr ⟨tb_1 _ (List.mem_of_getElem? (i := 110) rfl), List.forall_mem_cons.mpr ⟨tb_1 _ (List.mem_of_getElem? (i := 112) rfl), List.forall_mem_cons.mpr ⟨tb_1 _ (List.mem_of_getElem? (i := 114) rfl), List.forall_mem_cons.mpr ⟨tb_1 _ (List.mem_of_getElem? (i := 116) rfl), List.forall_mem_cons.mpr ⟨tb_1 _ (List.mem_of_getElem? (i := 118) rfl), List.forall_mem_cons.mpr ⟨tb_1 _ (List.mem_of_getElem? (i := 120) rfl), List.forall_mem_cons.mpr ⟨tb_1 _ (List.mem_of_getElem? (i := 122) rfl), List.forall_mem_cons.mpr ⟨tb_1 _ (List.mem_of_getElem? (i := 124) rfl), List.forall_mem_cons.mpr ⟨tb_1 _ (List.mem_of_getElem? (i := 126) rfl), List.forall_mem_cons.mpr ⟨tb_1 _ (List.mem_of_getElem? (i := 128) rfl), (fun _ h => absurd h List.not_mem_nil)⟩⟩⟩⟩⟩⟩⟩⟩⟩⟩⟩⟩⟩⟩⟩⟩ : ∀ w ∈ wl_wsX00, w ∈ lw_tbl)
def wl_wsX20 : List Cond := [Cond.lays "LinearizabilityChecker$OrderBuffer" "LinearizabilityChecker$OrderBuffer" "size" "I", Cond.laysFinal "LinearizabilityChecker$OrderBuffer" "LinearizabilityChecker$OrderBuffer" "operations" "[I"]
theorem we_wsX20 : wsX20 = wl_wsX20 := by decide +kernel
set_option maxRecDepth 100000 in
theorem wsin_wsX20 : ∀ w ∈ wsX20, w ∈ lw_tbl := we_wsX20 ▸ (List.forall_mem_cons.mpr ⟨tb_1 _ (List.mem_of_getElem? (i := 144) rfl), List.forall_mem_cons.mpr ⟨tb_1 _ (List.mem_of_getElem? (i := 146) rfl), (fun _ h => absurd h List.not_mem_nil)⟩⟩ : ∀ w ∈ wl_wsX20, w ∈ lw_tbl)
def wl_wsX60 : List Cond := [Cond.lays "LinearizabilityChecker$SharedState" "LinearizabilityChecker$SharedState" "value" "I", Cond.laysFinal "LinearizabilityChecker$SharedState" "LinearizabilityChecker$SharedState" "slots" "[I", Cond.lays "LinearizabilityChecker$SharedState" "LinearizabilityChecker$SharedState" "head" "I", Cond.lays "LinearizabilityChecker$SharedState" "LinearizabilityChecker$SharedState" "tail" "I", Cond.laysFinal "LinearizabilityChecker$SharedState" "LinearizabilityChecker$SharedState" "elements" "[Z"]
theorem we_wsX60 : wsX60 = wl_wsX60 := by decide +kernel
set_option maxRecDepth 100000 in
theorem wsin_wsX60 : ∀ w ∈ wsX60, w ∈ lw_tbl := we_wsX60 ▸ (List.forall_mem_cons.mpr ⟨tb_1 _ (List.mem_of_getElem? (i := 183) rfl), List.forall_mem_cons.mpr ⟨tb_1 _ (List.mem_of_getElem? (i := 185) rfl), List.forall_mem_cons.mpr ⟨tb_1 _ (List.mem_of_getElem? (i := 187) rfl), List.forall_mem_cons.mpr ⟨tb_1 _ (List.mem_of_getElem? (i := 189) rfl), List.forall_mem_cons.mpr ⟨tb_1 _ (List.mem_of_getElem? (i := 191) rfl), (fun _ h => absurd h List.not_mem_nil)⟩⟩⟩⟩⟩ : ∀ w ∈ wl_wsX60, w ∈ lw_tbl)
theorem wsub_wsL_law_r1 : ∀ w ∈ wsL_law_r1, w ∈ wsL_law := fun _ h => (List.mem_append_left _ (List.mem_append_left _ (List.mem_append_left _ (List.mem_append_left _ (List.mem_append_left _ (List.mem_append_left _ (List.mem_append_left _ (List.mem_append_left _ (List.mem_append_left _ (List.mem_append_left _ (List.mem_append_left _ (List.mem_append_left _ h))))))))))))
theorem wsub_wsL_law_r2 : ∀ w ∈ wsL_law_r2, w ∈ wsL_law := fun _ h => (List.mem_append_left _ (List.mem_append_left _ (List.mem_append_left _ (List.mem_append_left _ (List.mem_append_left _ (List.mem_append_left _ (List.mem_append_left _ (List.mem_append_left _ (List.mem_append_left _ (List.mem_append_left _ (List.mem_append_left _ (List.mem_append_right _ (List.mem_append_left _ h)))))))))))))
theorem wsub_wsL_law_r3 : ∀ w ∈ wsL_law_r3, w ∈ wsL_law := fun _ h => (List.mem_append_left _ (List.mem_append_left _ (List.mem_append_left _ (List.mem_append_left _ (List.mem_append_left _ (List.mem_append_left _ (List.mem_append_left _ (List.mem_append_left _ (List.mem_append_left _ (List.mem_append_left _ (List.mem_append_left _ (List.mem_append_right _ (List.mem_append_right _ (List.mem_append_left _ h))))))))))))))
theorem wsub_wsL_law_r4 : ∀ w ∈ wsL_law_r4, w ∈ wsL_law := fun _ h => (List.mem_append_left _ (List.mem_append_left _ (List.mem_append_left _ (List.mem_append_left _ (List.mem_append_left _ (List.mem_append_left _ (List.mem_append_left _ (List.mem_append_left _ (List.mem_append_left _ (List.mem_append_left _ (List.mem_append_left _ (List.mem_append_right _ (List.mem_append_right _ (List.mem_append_right _ (List.mem_append_left _ h)))))))))))))))
theorem wsub_wsL_law_r5 : ∀ w ∈ wsL_law_r5, w ∈ wsL_law := fun _ h => (List.mem_append_left _ (List.mem_append_left _ (List.mem_append_left _ (List.mem_append_left _ (List.mem_append_left _ (List.mem_append_left _ (List.mem_append_left _ (List.mem_append_left _ (List.mem_append_left _ (List.mem_append_left _ (List.mem_append_left _ (List.mem_append_right _ (List.mem_append_right _ (List.mem_append_right _ (List.mem_append_right _ (List.mem_append_left _ h))))))))))))))))
theorem wsub_wsL_law_r6 : ∀ w ∈ wsL_law_r6, w ∈ wsL_law := fun _ h => (List.mem_append_left _ (List.mem_append_left _ (List.mem_append_left _ (List.mem_append_left _ (List.mem_append_left _ (List.mem_append_left _ (List.mem_append_left _ (List.mem_append_left _ (List.mem_append_left _ (List.mem_append_left _ (List.mem_append_left _ (List.mem_append_right _ (List.mem_append_right _ (List.mem_append_right _ (List.mem_append_right _ (List.mem_append_right _ (List.mem_append_left _ h)))))))))))))))))
theorem wsub_wsL_law_r7 : ∀ w ∈ wsL_law_r7, w ∈ wsL_law := fun _ h => (List.mem_append_left _ (List.mem_append_left _ (List.mem_append_left _ (List.mem_append_left _ (List.mem_append_left _ (List.mem_append_left _ (List.mem_append_left _ (List.mem_append_left _ (List.mem_append_left _ (List.mem_append_left _ (List.mem_append_left _ (List.mem_append_right _ (List.mem_append_right _ (List.mem_append_right _ (List.mem_append_right _ (List.mem_append_right _ (List.mem_append_right _ (List.mem_append_left _ h))))))))))))))))))
theorem wsub_wsL_law_r8 : ∀ w ∈ wsL_law_r8, w ∈ wsL_law := fun _ h => (List.mem_append_left _ (List.mem_append_left _ (List.mem_append_left _ (List.mem_append_left _ (List.mem_append_left _ (List.mem_append_left _ (List.mem_append_left _ (List.mem_append_left _ (List.mem_append_left _ (List.mem_append_left _ (List.mem_append_left _ (List.mem_append_right _ (List.mem_append_right _ (List.mem_append_right _ (List.mem_append_right _ (List.mem_append_right _ (List.mem_append_right _ (List.mem_append_right _ (List.mem_append_left _ h)))))))))))))))))))
theorem wsub_wsL_law_r9 : ∀ w ∈ wsL_law_r9, w ∈ wsL_law := fun _ h => (List.mem_append_left _ (List.mem_append_left _ (List.mem_append_left _ (List.mem_append_left _ (List.mem_append_left _ (List.mem_append_left _ (List.mem_append_left _ (List.mem_append_left _ (List.mem_append_left _ (List.mem_append_left _ (List.mem_append_left _ (List.mem_append_right _ (List.mem_append_right _ (List.mem_append_right _ (List.mem_append_right _ (List.mem_append_right _ (List.mem_append_right _ (List.mem_append_right _ (List.mem_append_right _ (List.mem_append_left _ h))))))))))))))))))))
theorem wsub_wsL_law_r10 : ∀ w ∈ wsL_law_r10, w ∈ wsL_law := fun _ h => (List.mem_append_left _ (List.mem_append_left _ (List.mem_append_left _ (List.mem_append_left _ (List.mem_append_left _ (List.mem_append_left _ (List.mem_append_left _ (List.mem_append_left _ (List.mem_append_left _ (List.mem_append_left _ (List.mem_append_left _ (List.mem_append_right _ (List.mem_append_right _ (List.mem_append_right _ (List.mem_append_right _ (List.mem_append_right _ (List.mem_append_right _ (List.mem_append_right _ (List.mem_append_right _ (List.mem_append_right _ (List.mem_append_left _ h)))))))))))))))))))))
theorem wsub_wsL_law_r11 : ∀ w ∈ wsL_law_r11, w ∈ wsL_law := fun _ h => (List.mem_append_left _ (List.mem_append_left _ (List.mem_append_left _ (List.mem_append_left _ (List.mem_append_left _ (List.mem_append_left _ (List.mem_append_left _ (List.mem_append_left _ (List.mem_append_left _ (List.mem_append_left _ (List.mem_append_left _ (List.mem_append_right _ (List.mem_append_right _ (List.mem_append_right _ (List.mem_append_right _ (List.mem_append_right _ (List.mem_append_right _ (List.mem_append_right _ (List.mem_append_right _ (List.mem_append_right _ (List.mem_append_right _ (List.mem_append_left _ h))))))))))))))))))))))
theorem wsub_wsL_law_r12 : ∀ w ∈ wsL_law_r12, w ∈ wsL_law := fun _ h => (List.mem_append_left _ (List.mem_append_left _ (List.mem_append_left _ (List.mem_append_left _ (List.mem_append_left _ (List.mem_append_left _ (List.mem_append_left _ (List.mem_append_left _ (List.mem_append_left _ (List.mem_append_left _ (List.mem_append_left _ (List.mem_append_right _ (List.mem_append_right _ (List.mem_append_right _ (List.mem_append_right _ (List.mem_append_right _ (List.mem_append_right _ (List.mem_append_right _ (List.mem_append_right _ (List.mem_append_right _ (List.mem_append_right _ (List.mem_append_right _ (List.mem_append_left _ h)))))))))))))))))))))))
theorem wsub_wsL_law_r13 : ∀ w ∈ wsL_law_r13, w ∈ wsL_law := fun _ h => (List.mem_append_left _ (List.mem_append_left _ (List.mem_append_left _ (List.mem_append_left _ (List.mem_append_left _ (List.mem_append_left _ (List.mem_append_left _ (List.mem_append_left _ (List.mem_append_left _ (List.mem_append_left _ (List.mem_append_left _ (List.mem_append_right _ (List.mem_append_right _ (List.mem_append_right _ (List.mem_append_right _ (List.mem_append_right _ (List.mem_append_right _ (List.mem_append_right _ (List.mem_append_right _ (List.mem_append_right _ (List.mem_append_right _ (List.mem_append_right _ (List.mem_append_right _ (List.mem_append_left _ h))))))))))))))))))))))))
theorem wsub_wsL_law_r14 : ∀ w ∈ wsL_law_r14, w ∈ wsL_law := fun _ h => (List.mem_append_left _ (List.mem_append_left _ (List.mem_append_left _ (List.mem_append_left _ (List.mem_append_left _ (List.mem_append_left _ (List.mem_append_left _ (List.mem_append_left _ (List.mem_append_left _ (List.mem_append_left _ (List.mem_append_left _ (List.mem_append_right _ (List.mem_append_right _ (List.mem_append_right _ (List.mem_append_right _ (List.mem_append_right _ (List.mem_append_right _ (List.mem_append_right _ (List.mem_append_right _ (List.mem_append_right _ (List.mem_append_right _ (List.mem_append_right _ (List.mem_append_right _ (List.mem_append_right _ (List.mem_append_left _ h)))))))))))))))))))))))))
theorem wsub_wsL_law_r15 : ∀ w ∈ wsL_law_r15, w ∈ wsL_law := fun _ h => (List.mem_append_left _ (List.mem_append_left _ (List.mem_append_left _ (List.mem_append_left _ (List.mem_append_left _ (List.mem_append_left _ (List.mem_append_left _ (List.mem_append_left _ (List.mem_append_left _ (List.mem_append_left _ (List.mem_append_left _ (List.mem_append_right _ (List.mem_append_right _ (List.mem_append_right _ (List.mem_append_right _ (List.mem_append_right _ (List.mem_append_right _ (List.mem_append_right _ (List.mem_append_right _ (List.mem_append_right _ (List.mem_append_right _ (List.mem_append_right _ (List.mem_append_right _ (List.mem_append_right _ (List.mem_append_right _ (List.mem_append_left _ h))))))))))))))))))))))))))
theorem wsub_wsL_law_r16 : ∀ w ∈ wsL_law_r16, w ∈ wsL_law := fun _ h => (List.mem_append_left _ (List.mem_append_left _ (List.mem_append_left _ (List.mem_append_left _ (List.mem_append_left _ (List.mem_append_left _ (List.mem_append_left _ (List.mem_append_left _ (List.mem_append_left _ (List.mem_append_left _ (List.mem_append_left _ (List.mem_append_right _ (List.mem_append_right _ (List.mem_append_right _ (List.mem_append_right _ (List.mem_append_right _ (List.mem_append_right _ (List.mem_append_right _ (List.mem_append_right _ (List.mem_append_right _ (List.mem_append_right _ (List.mem_append_right _ (List.mem_append_right _ (List.mem_append_right _ (List.mem_append_right _ (List.mem_append_right _ (List.mem_append_left _ h)))))))))))))))))))))))))))
theorem wsub_wsL_law_r17 : ∀ w ∈ wsL_law_r17, w ∈ wsL_law := fun _ h => (List.mem_append_left _ (List.mem_append_left _ (List.mem_append_left _ (List.mem_append_left _ (List.mem_append_left _ (List.mem_append_left _ (List.mem_append_left _ (List.mem_append_left _ (List.mem_append_left _ (List.mem_append_left _ (List.mem_append_left _ (List.mem_append_right _ (List.mem_append_right _ (List.mem_append_right _ (List.mem_append_right _ (List.mem_append_right _ (List.mem_append_right _ (List.mem_append_right _ (List.mem_append_right _ (List.mem_append_right _ (List.mem_append_right _ (List.mem_append_right _ (List.mem_append_right _ (List.mem_append_right _ (List.mem_append_right _ (List.mem_append_right _ (List.mem_append_right _ (List.mem_append_left _ h))))))))))))))))))))))))))))
theorem wsub_wsL_law_r18 : ∀ w ∈ wsL_law_r18, w ∈ wsL_law := fun _ h => (List.mem_append_left _ (List.mem_append_left _ (List.mem_append_left _ (List.mem_append_left _ (List.mem_append_left _ (List.mem_append_left _ (List.mem_append_left _ (List.mem_append_left _ (List.mem_append_left _ (List.mem_append_left _ (List.mem_append_left _ (List.mem_append_right _ (List.mem_append_right _ (List.mem_append_right _ (List.mem_append_right _ (List.mem_append_right _ (List.mem_append_right _ (List.mem_append_right _ (List.mem_append_right _ (List.mem_append_right _ (List.mem_append_right _ (List.mem_append_right _ (List.mem_append_right _ (List.mem_append_right _ (List.mem_append_right _ (List.mem_append_right _ (List.mem_append_right _ (List.mem_append_right _ (List.mem_append_left _ h)))))))))))))))))))))))))))))
theorem wsub_wsL_law_r19 : ∀ w ∈ wsL_law_r19, w ∈ wsL_law := fun _ h => (List.mem_append_left _ (List.mem_append_left _ (List.mem_append_left _ (List.mem_append_left _ (List.mem_append_left _ (List.mem_append_left _ (List.mem_append_left _ (List.mem_append_left _ (List.mem_append_left _ (List.mem_append_left _ (List.mem_append_left _ (List.mem_append_right _ (List.mem_append_right _ (List.mem_append_right _ (List.mem_append_right _ (List.mem_append_right _ (List.mem_append_right _ (List.mem_append_right _ (List.mem_append_right _ (List.mem_append_right _ (List.mem_append_right _ (List.mem_append_right _ (List.mem_append_right _ (List.mem_append_right _ (List.mem_append_right _ (List.mem_append_right _ (List.mem_append_right _ (List.mem_append_right _ (List.mem_append_right _ (List.mem_append_left _ h))))))))))))))))))))))))))))))
theorem wsub_wsL_law_r20 : ∀ w ∈ wsL_law_r20, w ∈ wsL_law := fun _ h => (List.mem_append_left _ (List.mem_append_left _ (List.mem_append_left _ (List.mem_append_left _ (List.mem_append_left _ (List.mem_append_left _ (List.mem_append_left _ (List.mem_append_left _ (List.mem_append_left _ (List.mem_append_left _ (List.mem_append_left _ (List.mem_append_right _ (List.mem_append_right _ (List.mem_append_right _ (List.mem_append_right _ (List.mem_append_right _ (List.mem_append_right _ (List.mem_append_right _ (List.mem_append_right _ (List.mem_append_right _ (List.mem_append_right _ (List.mem_append_right _ (List.mem_append_right _ (List.mem_append_right _ (List.mem_append_right _ (List.mem_append_right _ (List.mem_append_right _ (List.mem_append_right _ (List.mem_append_right _ (List.mem_append_right _ (List.mem_append_left _ h)))))))))))))))))))))))))))))))
theorem wsub_wsL_law_r21 : ∀ w ∈ wsL_law_r21, w ∈ wsL_law := fun _ h => (List.mem_append_left _ (List.mem_append_left _ (List.mem_append_left _ (List.mem_append_left _ (List.mem_append_left _ (List.mem_append_left _ (List.mem_append_left _ (List.mem_append_left _ (List.mem_append_left _ (List.mem_append_left _ (List.mem_append_left _ (List.mem_append_right _ (List.mem_append_right _ (List.mem_append_right _ (List.mem_append_right _ (List.mem_append_right _ (List.mem_append_right _ (List.mem_append_right _ (List.mem_append_right _ (List.mem_append_right _ (List.mem_append_right _ (List.mem_append_right _ (List.mem_append_right _ (List.mem_append_right _ (List.mem_append_right _ (List.mem_append_right _ (List.mem_append_right _ (List.mem_append_right _ (List.mem_append_right _ (List.mem_append_right _ (List.mem_append_right _ (List.mem_append_left _ h))))))))))))))))))))))))))))))))
theorem wsub_wsL_law_r22 : ∀ w ∈ wsL_law_r22, w ∈ wsL_law := fun _ h => (List.mem_append_left _ (List.mem_append_left _ (List.mem_append_left _ (List.mem_append_left _ (List.mem_append_left _ (List.mem_append_left _ (List.mem_append_left _ (List.mem_append_left _ (List.mem_append_left _ (List.mem_append_left _ (List.mem_append_left _ (List.mem_append_right _ (List.mem_append_right _ (List.mem_append_right _ (List.mem_append_right _ (List.mem_append_right _ (List.mem_append_right _ (List.mem_append_right _ (List.mem_append_right _ (List.mem_append_right _ (List.mem_append_right _ (List.mem_append_right _ (List.mem_append_right _ (List.mem_append_right _ (List.mem_append_right _ (List.mem_append_right _ (List.mem_append_right _ (List.mem_append_right _ (List.mem_append_right _ (List.mem_append_right _ (List.mem_append_right _ (List.mem_append_right _ (List.mem_append_left _ h)))))))))))))))))))))))))))))))))
theorem wsub_wsL_law_r23 : ∀ w ∈ wsL_law_r23, w ∈ wsL_law := fun _ h => (List.mem_append_left _ (List.mem_append_left _ (List.mem_append_left _ (List.mem_append_left _ (List.mem_append_left _ (List.mem_append_left _ (List.mem_append_left _ (List.mem_append_left _ (List.mem_append_left _ (List.mem_append_left _ (List.mem_append_left _ (List.mem_append_right _ (List.mem_append_right _ (List.mem_append_right _ (List.mem_append_right _ (List.mem_append_right _ (List.mem_append_right _ (List.mem_append_right _ (List.mem_append_right _ (List.mem_append_right _ (List.mem_append_right _ (List.mem_append_right _ (List.mem_append_right _ (List.mem_append_right _ (List.mem_append_right _ (List.mem_append_right _ (List.mem_append_right _ (List.mem_append_right _ (List.mem_append_right _ (List.mem_append_right _ (List.mem_append_right _ (List.mem_append_right _ (List.mem_append_right _ (List.mem_append_left _ h))))))))))))))))))))))))))))))))))
theorem wsub_wsL_law_r24 : ∀ w ∈ wsL_law_r24, w ∈ wsL_law := fun _ h => (List.mem_append_left _ (List.mem_append_left _ (List.mem_append_left _ (List.mem_append_left _ (List.mem_append_left _ (List.mem_append_left _ (List.mem_append_left _ (List.mem_append_left _ (List.mem_append_left _ (List.mem_append_left _ (List.mem_append_left _ (List.mem_append_right _ (List.mem_append_right _ (List.mem_append_right _ (List.mem_append_right _ (List.mem_append_right _ (List.mem_append_right _ (List.mem_append_right _ (List.mem_append_right _ (List.mem_append_right _ (List.mem_append_right _ (List.mem_append_right _ (List.mem_append_right _ (List.mem_append_right _ (List.mem_append_right _ (List.mem_append_right _ (List.mem_append_right _ (List.mem_append_right _ (List.mem_append_right _ (List.mem_append_right _ (List.mem_append_right _ (List.mem_append_right _ (List.mem_append_right _ (List.mem_append_right _ (List.mem_append_left _ h)))))))))))))))))))))))))))))))))))
theorem wsub_wsL_law_r25 : ∀ w ∈ wsL_law_r25, w ∈ wsL_law := fun _ h => (List.mem_append_left _ (List.mem_append_left _ (List.mem_append_left _ (List.mem_append_left _ (List.mem_append_left _ (List.mem_append_left _ (List.mem_append_left _ (List.mem_append_left _ (List.mem_append_left _ (List.mem_append_left _ (List.mem_append_left _ (List.mem_append_right _ (List.mem_append_right _ (List.mem_append_right _ (List.mem_append_right _ (List.mem_append_right _ (List.mem_append_right _ (List.mem_append_right _ (List.mem_append_right _ (List.mem_append_right _ (List.mem_append_right _ (List.mem_append_right _ (List.mem_append_right _ (List.mem_append_right _ (List.mem_append_right _ (List.mem_append_right _ (List.mem_append_right _ (List.mem_append_right _ (List.mem_append_right _ (List.mem_append_right _ (List.mem_append_right _ (List.mem_append_right _ (List.mem_append_right _ (List.mem_append_right _ (List.mem_append_right _ (List.mem_append_left _ h))))))))))))))))))))))))))))))))))))
theorem wsub_wsL_law_r26 : ∀ w ∈ wsL_law_r26, w ∈ wsL_law := fun _ h => (List.mem_append_left _ (List.mem_append_left _ (List.mem_append_left _ (List.mem_append_left _ (List.mem_append_left _ (List.mem_append_left _ (List.mem_append_left _ (List.mem_append_left _ (List.mem_append_left _ (List.mem_append_left _ (List.mem_append_left _ (List.mem_append_right _ (List.mem_append_right _ (List.mem_append_right _ (List.mem_append_right _ (List.mem_append_right _ (List.mem_append_right _ (List.mem_append_right _ (List.mem_append_right _ (List.mem_append_right _ (List.mem_append_right _ (List.mem_append_right _ (List.mem_append_right _ (List.mem_append_right _ (List.mem_append_right _ (List.mem_append_right _ (List.mem_append_right _ (List.mem_append_right _ (List.mem_append_right _ (List.mem_append_right _ (List.mem_append_right _ (List.mem_append_right _ (List.mem_append_right _ (List.mem_append_right _ (List.mem_append_right _ (List.mem_append_right _ (List.mem_append_left _ h)))))))))))))))))))))))))))))))))))))
theorem wsub_wsL_law_r27 : ∀ w ∈ wsL_law_r27, w ∈ wsL_law := fun _ h => (List.mem_append_left _ (List.mem_append_left _ (List.mem_append_left _ (List.mem_append_left _ (List.mem_append_left _ (List.mem_append_left _ (List.mem_append_left _ (List.mem_append_left _ (List.mem_append_left _ (List.mem_append_left _ (List.mem_append_left _ (List.mem_append_right _ (List.mem_append_right _ (List.mem_append_right _ (List.mem_append_right _ (List.mem_append_right _ (List.mem_append_right _ (List.mem_append_right _ (List.mem_append_right _ (List.mem_append_right _ (List.mem_append_right _ (List.mem_append_right _ (List.mem_append_right _ (List.mem_append_right _ (List.mem_append_right _ (List.mem_append_right _ (List.mem_append_right _ (List.mem_append_right _ (List.mem_append_right _ (List.mem_append_right _ (List.mem_append_right _ (List.mem_append_right _ (List.mem_append_right _ (List.mem_append_right _ (List.mem_append_right _ (List.mem_append_right _ (List.mem_append_right _ (List.mem_append_left _ h))))))))))))))))))))))))))))))))))))))
theorem wsub_wsL_law_r28 : ∀ w ∈ wsL_law_r28, w ∈ wsL_law := fun _ h => (List.mem_append_left _ (List.mem_append_left _ (List.mem_append_left _ (List.mem_append_left _ (List.mem_append_left _ (List.mem_append_left _ (List.mem_append_left _ (List.mem_append_left _ (List.mem_append_left _ (List.mem_append_left _ (List.mem_append_left _ (List.mem_append_right _ (List.mem_append_right _ (List.mem_append_right _ (List.mem_append_right _ (List.mem_append_right _ (List.mem_append_right _ (List.mem_append_right _ (List.mem_append_right _ (List.mem_append_right _ (List.mem_append_right _ (List.mem_append_right _ (List.mem_append_right _ (List.mem_append_right _ (List.mem_append_right _ (List.mem_append_right _ (List.mem_append_right _ (List.mem_append_right _ (List.mem_append_right _ (List.mem_append_right _ (List.mem_append_right _ (List.mem_append_right _ (List.mem_append_right _ (List.mem_append_right _ (List.mem_append_right _ (List.mem_append_right _ (List.mem_append_right _ (List.mem_append_right _ (List.mem_append_left _ h)))))))))))))))))))))))))))))))))))))))
theorem wsub_wsL_law_r29 : ∀ w ∈ wsL_law_r29, w ∈ wsL_law := fun _ h => (List.mem_append_left _ (List.mem_append_left _ (List.mem_append_left _ (List.mem_append_left _ (List.mem_append_left _ (List.mem_append_left _ (List.mem_append_left _ (List.mem_append_left _ (List.mem_append_left _ (List.mem_append_left _ (List.mem_append_left _ (List.mem_append_right _ (List.mem_append_right _ (List.mem_append_right _ (List.mem_append_right _ (List.mem_append_right _ (List.mem_append_right _ (List.mem_append_right _ (List.mem_append_right _ (List.mem_append_right _ (List.mem_append_right _ (List.mem_append_right _ (List.mem_append_right _ (List.mem_append_right _ (List.mem_append_right _ (List.mem_append_right _ (List.mem_append_right _ (List.mem_append_right _ (List.mem_append_right _ (List.mem_append_right _ (List.mem_append_right _ (List.mem_append_right _ (List.mem_append_right _ (List.mem_append_right _ (List.mem_append_right _ (List.mem_append_right _ (List.mem_append_right _ (List.mem_append_right _ (List.mem_append_right _ (List.mem_append_left _ h))))))))))))))))))))))))))))))))))))))))
theorem wsub_wsL_law_r30 : ∀ w ∈ wsL_law_r30, w ∈ wsL_law := fun _ h => (List.mem_append_left _ (List.mem_append_left _ (List.mem_append_left _ (List.mem_append_left _ (List.mem_append_left _ (List.mem_append_left _ (List.mem_append_left _ (List.mem_append_left _ (List.mem_append_left _ (List.mem_append_left _ (List.mem_append_left _ (List.mem_append_right _ (List.mem_append_right _ (List.mem_append_right _ (List.mem_append_right _ (List.mem_append_right _ (List.mem_append_right _ (List.mem_append_right _ (List.mem_append_right _ (List.mem_append_right _ (List.mem_append_right _ (List.mem_append_right _ (List.mem_append_right _ (List.mem_append_right _ (List.mem_append_right _ (List.mem_append_right _ (List.mem_append_right _ (List.mem_append_right _ (List.mem_append_right _ (List.mem_append_right _ (List.mem_append_right _ (List.mem_append_right _ (List.mem_append_right _ (List.mem_append_right _ (List.mem_append_right _ (List.mem_append_right _ (List.mem_append_right _ (List.mem_append_right _ (List.mem_append_right _ (List.mem_append_right _ (List.mem_append_left _ h)))))))))))))))))))))))))))))))))))))))))
theorem wsub_wsL_law_r31 : ∀ w ∈ wsL_law_r31, w ∈ wsL_law := fun _ h => (List.mem_append_left _ (List.mem_append_left _ (List.mem_append_left _ (List.mem_append_left _ (List.mem_append_left _ (List.mem_append_left _ (List.mem_append_left _ (List.mem_append_left _ (List.mem_append_left _ (List.mem_append_left _ (List.mem_append_left _ (List.mem_append_right _ (List.mem_append_right _ (List.mem_append_right _ (List.mem_append_right _ (List.mem_append_right _ (List.mem_append_right _ (List.mem_append_right _ (List.mem_append_right _ (List.mem_append_right _ (List.mem_append_right _ (List.mem_append_right _ (List.mem_append_right _ (List.mem_append_right _ (List.mem_append_right _ (List.mem_append_right _ (List.mem_append_right _ (List.mem_append_right _ (List.mem_append_right _ (List.mem_append_right _ (List.mem_append_right _ (List.mem_append_right _ (List.mem_append_right _ (List.mem_append_right _ (List.mem_append_right _ (List.mem_append_right _ (List.mem_append_right _ (List.mem_append_right _ (List.mem_append_right _ (List.mem_append_right _ (List.mem_append_right _ (List.mem_append_left _ h))))))))))))))))))))))))))))))))))))))))))
theorem wsub_wsL_law_r32 : ∀ w ∈ wsL_law_r32, w ∈ wsL_law := fun _ h => (List.mem_append_left _ (List.mem_append_left _ (List.mem_append_left _ (List.mem_append_left _ (List.mem_append_left _ (List.mem_append_left _ (List.mem_append_left _ (List.mem_append_left _ (List.mem_append_left _ (List.mem_append_left _ (List.mem_append_left _ (List.mem_append_right _ (List.mem_append_right _ (List.mem_append_right _ (List.mem_append_right _ (List.mem_append_right _ (List.mem_append_right _ (List.mem_append_right _ (List.mem_append_right _ (List.mem_append_right _ (List.mem_append_right _ (List.mem_append_right _ (List.mem_append_right _ (List.mem_append_right _ (List.mem_append_right _ (List.mem_append_right _ (List.mem_append_right _ (List.mem_append_right _ (List.mem_append_right _ (List.mem_append_right _ (List.mem_append_right _ (List.mem_append_right _ (List.mem_append_right _ (List.mem_append_right _ (List.mem_append_right _ (List.mem_append_right _ (List.mem_append_right _ (List.mem_append_right _ (List.mem_append_right _ (List.mem_append_right _ (List.mem_append_right _ (List.mem_append_right _ (List.mem_append_left _ h)))))))))))))))))))))))))))))))))))))))))))
theorem wsub_wsL_law_r33 : ∀ w ∈ wsL_law_r33, w ∈ wsL_law := fun _ h => (List.mem_append_left _ (List.mem_append_left _ (List.mem_append_left _ (List.mem_append_left _ (List.mem_append_left _ (List.mem_append_left _ (List.mem_append_left _ (List.mem_append_left _ (List.mem_append_left _ (List.mem_append_left _ (List.mem_append_left _ (List.mem_append_right _ (List.mem_append_right _ (List.mem_append_right _ (List.mem_append_right _ (List.mem_append_right _ (List.mem_append_right _ (List.mem_append_right _ (List.mem_append_right _ (List.mem_append_right _ (List.mem_append_right _ (List.mem_append_right _ (List.mem_append_right _ (List.mem_append_right _ (List.mem_append_right _ (List.mem_append_right _ (List.mem_append_right _ (List.mem_append_right _ (List.mem_append_right _ (List.mem_append_right _ (List.mem_append_right _ (List.mem_append_right _ (List.mem_append_right _ (List.mem_append_right _ (List.mem_append_right _ (List.mem_append_right _ (List.mem_append_right _ (List.mem_append_right _ (List.mem_append_right _ (List.mem_append_right _ (List.mem_append_right _ (List.mem_append_right _ (List.mem_append_right _ (List.mem_append_left _ h))))))))))))))))))))))))))))))))))))))))))))
theorem wsub_wsL_law_r34 : ∀ w ∈ wsL_law_r34, w ∈ wsL_law := fun _ h => (List.mem_append_left _ (List.mem_append_left _ (List.mem_append_left _ (List.mem_append_left _ (List.mem_append_left _ (List.mem_append_left _ (List.mem_append_left _ (List.mem_append_left _ (List.mem_append_left _ (List.mem_append_left _ (List.mem_append_left _ (List.mem_append_right _ (List.mem_append_right _ (List.mem_append_right _ (List.mem_append_right _ (List.mem_append_right _ (List.mem_append_right _ (List.mem_append_right _ (List.mem_append_right _ (List.mem_append_right _ (List.mem_append_right _ (List.mem_append_right _ (List.mem_append_right _ (List.mem_append_right _ (List.mem_append_right _ (List.mem_append_right _ (List.mem_append_right _ (List.mem_append_right _ (List.mem_append_right _ (List.mem_append_right _ (List.mem_append_right _ (List.mem_append_right _ (List.mem_append_right _ (List.mem_append_right _ (List.mem_append_right _ (List.mem_append_right _ (List.mem_append_right _ (List.mem_append_right _ (List.mem_append_right _ (List.mem_append_right _ (List.mem_append_right _ (List.mem_append_right _ (List.mem_append_right _ (List.mem_append_right _ (List.mem_append_left _ h)))))))))))))))))))))))))))))))))))))))))))))
theorem wsub_wsL_law_r35 : ∀ w ∈ wsL_law_r35, w ∈ wsL_law := fun _ h => (List.mem_append_left _ (List.mem_append_left _ (List.mem_append_left _ (List.mem_append_left _ (List.mem_append_left _ (List.mem_append_left _ (List.mem_append_left _ (List.mem_append_left _ (List.mem_append_left _ (List.mem_append_left _ (List.mem_append_left _ (List.mem_append_right _ (List.mem_append_right _ (List.mem_append_right _ (List.mem_append_right _ (List.mem_append_right _ (List.mem_append_right _ (List.mem_append_right _ (List.mem_append_right _ (List.mem_append_right _ (List.mem_append_right _ (List.mem_append_right _ (List.mem_append_right _ (List.mem_append_right _ (List.mem_append_right _ (List.mem_append_right _ (List.mem_append_right _ (List.mem_append_right _ (List.mem_append_right _ (List.mem_append_right _ (List.mem_append_right _ (List.mem_append_right _ (List.mem_append_right _ (List.mem_append_right _ (List.mem_append_right _ (List.mem_append_right _ (List.mem_append_right _ (List.mem_append_right _ (List.mem_append_right _ (List.mem_append_right _ (List.mem_append_right _ (List.mem_append_right _ (List.mem_append_right _ (List.mem_append_right _ (List.mem_append_right _ (List.mem_append_left _ h))))))))))))))))))))))))))))))))))))))))))))))
theorem wsub_wsL_law_r36 : ∀ w ∈ wsL_law_r36, w ∈ wsL_law := fun _ h => (List.mem_append_left _ (List.mem_append_left _ (List.mem_append_left _ (List.mem_append_left _ (List.mem_append_left _ (List.mem_append_left _ (List.mem_append_left _ (List.mem_append_left _ (List.mem_append_left _ (List.mem_append_left _ (List.mem_append_left _ (List.mem_append_right _ (List.mem_append_right _ (List.mem_append_right _ (List.mem_append_right _ (List.mem_append_right _ (List.mem_append_right _ (List.mem_append_right _ (List.mem_append_right _ (List.mem_append_right _ (List.mem_append_right _ (List.mem_append_right _ (List.mem_append_right _ (List.mem_append_right _ (List.mem_append_right _ (List.mem_append_right _ (List.mem_append_right _ (List.mem_append_right _ (List.mem_append_right _ (List.mem_append_right _ (List.mem_append_right _ (List.mem_append_right _ (List.mem_append_right _ (List.mem_append_right _ (List.mem_append_right _ (List.mem_append_right _ (List.mem_append_right _ (List.mem_append_right _ (List.mem_append_right _ (List.mem_append_right _ (List.mem_append_right _ (List.mem_append_right _ (List.mem_append_right _ (List.mem_append_right _ (List.mem_append_right _ (List.mem_append_right _ (List.mem_append_left _ h)))))))))))))))))))))))))))))))))))))))))))))))
theorem wsub_wsL_law_r37 : ∀ w ∈ wsL_law_r37, w ∈ wsL_law := fun _ h => (List.mem_append_left _ (List.mem_append_left _ (List.mem_append_left _ (List.mem_append_left _ (List.mem_append_left _ (List.mem_append_left _ (List.mem_append_left _ (List.mem_append_left _ (List.mem_append_left _ (List.mem_append_left _ (List.mem_append_left _ (List.mem_append_right _ (List.mem_append_right _ (List.mem_append_right _ (List.mem_append_right _ (List.mem_append_right _ (List.mem_append_right _ (List.mem_append_right _ (List.mem_append_right _ (List.mem_append_right _ (List.mem_append_right _ (List.mem_append_right _ (List.mem_append_right _ (List.mem_append_right _ (List.mem_append_right _ (List.mem_append_right _ (List.mem_append_right _ (List.mem_append_right _ (List.mem_append_right _ (List.mem_append_right _ (List.mem_append_right _ (List.mem_append_right _ (List.mem_append_right _ (List.mem_append_right _ (List.mem_append_right _ (List.mem_append_right _ (List.mem_append_right _ (List.mem_append_right _ (List.mem_append_right _ (List.mem_append_right _ (List.mem_append_right _ (List.mem_append_right _ (List.mem_append_right _ (List.mem_append_right _ (List.mem_append_right _ (List.mem_append_right _ (List.mem_append_right _ (List.mem_append_left _ h))))))))))))))))))))))))))))))))))))))))))))))))
theorem wsub_wsL_law_r38 : ∀ w ∈ wsL_law_r38, w ∈ wsL_law := fun _ h => (List.mem_append_left _ (List.mem_append_left _ (List.mem_append_left _ (List.mem_append_left _ (List.mem_append_left _ (List.mem_append_left _ (List.mem_append_left _ (List.mem_append_left _ (List.mem_append_left _ (List.mem_append_left _ (List.mem_append_left _ (List.mem_append_right _ (List.mem_append_right _ (List.mem_append_right _ (List.mem_append_right _ (List.mem_append_right _ (List.mem_append_right _ (List.mem_append_right _ (List.mem_append_right _ (List.mem_append_right _ (List.mem_append_right _ (List.mem_append_right _ (List.mem_append_right _ (List.mem_append_right _ (List.mem_append_right _ (List.mem_append_right _ (List.mem_append_right _ (List.mem_append_right _ (List.mem_append_right _ (List.mem_append_right _ (List.mem_append_right _ (List.mem_append_right _ (List.mem_append_right _ (List.mem_append_right _ (List.mem_append_right _ (List.mem_append_right _ (List.mem_append_right _ (List.mem_append_right _ (List.mem_append_right _ (List.mem_append_right _ (List.mem_append_right _ (List.mem_append_right _ (List.mem_append_right _ (List.mem_append_right _ (List.mem_append_right _ (List.mem_append_right _ (List.mem_append_right _ (List.mem_append_right _ (List.mem_append_left _ h)))))))))))))))))))))))))))))))))))))))))))))))))
theorem wsub_wsL_law_r39 : ∀ w ∈ wsL_law_r39, w ∈ wsL_law := fun _ h => (List.mem_append_left _ (List.mem_append_left _ (List.mem_append_left _ (List.mem_append_left _ (List.mem_append_left _ (List.mem_append_left _ (List.mem_append_left _ (List.mem_append_left _ (List.mem_append_left _ (List.mem_append_left _ (List.mem_append_left _ (List.mem_append_right _ (List.mem_append_right _ (List.mem_append_right _ (List.mem_append_right _ (List.mem_append_right _ (List.mem_append_right _ (List.mem_append_right _ (List.mem_append_right _ (List.mem_append_right _ (List.mem_append_right _ (List.mem_append_right _ (List.mem_append_right _ (List.mem_append_right _ (List.mem_append_right _ (List.mem_append_right _ (List.mem_append_right _ (List.mem_append_right _ (List.mem_append_right _ (List.mem_append_right _ (List.mem_append_right _ (List.mem_append_right _ (List.mem_append_right _ (List.mem_append_right _ (List.mem_append_right _ (List.mem_append_right _ (List.mem_append_right _ (List.mem_append_right _ (List.mem_append_right _ (List.mem_append_right _ (List.mem_append_right _ (List.mem_append_right _ (List.mem_append_right _ (List.mem_append_right _ (List.mem_append_right _ (List.mem_append_right _ (List.mem_append_right _ (List.mem_append_right _ (List.mem_append_right _ (List.mem_append_left _ h))))))))))))))))))))))))))))))))))))))))))))))))))
theorem wsub_wsL_law_r40 : ∀ w ∈ wsL_law_r40, w ∈ wsL_law := fun _ h => (List.mem_append_left _ (List.mem_append_left _ (List.mem_append_left _ (List.mem_append_left _ (List.mem_append_left _ (List.mem_append_left _ (List.mem_append_left _ (List.mem_append_left _ (List.mem_append_left _ (List.mem_append_left _ (List.mem_append_left _ (List.mem_append_right _ (List.mem_append_right _ (List.mem_append_right _ (List.mem_append_right _ (List.mem_append_right _ (List.mem_append_right _ (List.mem_append_right _ (List.mem_append_right _ (List.mem_append_right _ (List.mem_append_right _ (List.mem_append_right _ (List.mem_append_right _ (List.mem_append_right _ (List.mem_append_right _ (List.mem_append_right _ (List.mem_append_right _ (List.mem_append_right _ (List.mem_append_right _ (List.mem_append_right _ (List.mem_append_right _ (List.mem_append_right _ (List.mem_append_right _ (List.mem_append_right _ (List.mem_append_right _ (List.mem_append_right _ (List.mem_append_right _ (List.mem_append_right _ (List.mem_append_right _ (List.mem_append_right _ (List.mem_append_right _ (List.mem_append_right _ (List.mem_append_right _ (List.mem_append_right _ (List.mem_append_right _ (List.mem_append_right _ (List.mem_append_right _ (List.mem_append_right _ (List.mem_append_right _ (List.mem_append_right _ (List.mem_append_left _ h)))))))))))))))))))))))))))))))))))))))))))))))))))
theorem wsub_wsL_law_r41 : ∀ w ∈ wsL_law_r41, w ∈ wsL_law := fun _ h => (List.mem_append_left _ (List.mem_append_left _ (List.mem_append_left _ (List.mem_append_left _ (List.mem_append_left _ (List.mem_append_left _ (List.mem_append_left _ (List.mem_append_left _ (List.mem_append_left _ (List.mem_append_left _ (List.mem_append_left _ (List.mem_append_right _ (List.mem_append_right _ (List.mem_append_right _ (List.mem_append_right _ (List.mem_append_right _ (List.mem_append_right _ (List.mem_append_right _ (List.mem_append_right _ (List.mem_append_right _ (List.mem_append_right _ (List.mem_append_right _ (List.mem_append_right _ (List.mem_append_right _ (List.mem_append_right _ (List.mem_append_right _ (List.mem_append_right _ (List.mem_append_right _ (List.mem_append_right _ (List.mem_append_right _ (List.mem_append_right _ (List.mem_append_right _ (List.mem_append_right _ (List.mem_append_right _ (List.mem_append_right _ (List.mem_append_right _ (List.mem_append_right _ (List.mem_append_right _ (List.mem_append_right _ (List.mem_append_right _ (List.mem_append_right _ (List.mem_append_right _ (List.mem_append_right _ (List.mem_append_right _ (List.mem_append_right _ (List.mem_append_right _ (List.mem_append_right _ (List.mem_append_right _ (List.mem_append_right _ (List.mem_append_right _ (List.mem_append_right _ (List.mem_append_left _ h))))))))))))))))))))))))))))))))))))))))))))))))))))
theorem wsub_wsL_law_r42 : ∀ w ∈ wsL_law_r42, w ∈ wsL_law := fun _ h => (List.mem_append_left _ (List.mem_append_left _ (List.mem_append_left _ (List.mem_append_left _ (List.mem_append_left _ (List.mem_append_left _ (List.mem_append_left _ (List.mem_append_left _ (List.mem_append_left _ (List.mem_append_left _ (List.mem_append_left _ (List.mem_append_right _ (List.mem_append_right _ (List.mem_append_right _ (List.mem_append_right _ (List.mem_append_right _ (List.mem_append_right _ (List.mem_append_right _ (List.mem_append_right _ (List.mem_append_right _ (List.mem_append_right _ (List.mem_append_right _ (List.mem_append_right _ (List.mem_append_right _ (List.mem_append_right _ (List.mem_append_right _ (List.mem_append_right _ (List.mem_append_right _ (List.mem_append_right _ (List.mem_append_right _ (List.mem_append_right _ (List.mem_append_right _ (List.mem_append_right _ (List.mem_append_right _ (List.mem_append_right _ (List.mem_append_right _ (List.mem_append_right _ (List.mem_append_right _ (List.mem_append_right _ (List.mem_append_right _ (List.mem_append_right _ (List.mem_append_right _ (List.mem_append_right _ (List.mem_append_right _ (List.mem_append_right _ (List.mem_append_right _ (List.mem_append_right _ (List.mem_append_right _ (List.mem_append_right _ (List.mem_append_right _ (List.mem_append_right _ (List.mem_append_right _ (List.mem_append_left _ h)))))))))))))))))))))))))))))))))))))))))))))))))))))
theorem wsub_wsL_law_r43 : ∀ w ∈ wsL_law_r43, w ∈ wsL_law := fun _ h => (List.mem_append_left _ (List.mem_append_left _ (List.mem_append_left _ (List.mem_append_left _ (List.mem_append_left _ (List.mem_append_left _ (List.mem_append_left _ (List.mem_append_left _ (List.mem_append_left _ (List.mem_append_left _ (List.mem_append_left _ (List.mem_append_right _ (List.mem_append_right _ (List.mem_append_right _ (List.mem_append_right _ (List.mem_append_right _ (List.mem_append_right _ (List.mem_append_right _ (List.mem_append_right _ (List.mem_append_right _ (List.mem_append_right _ (List.mem_append_right _ (List.mem_append_right _ (List.mem_append_right _ (List.mem_append_right _ (List.mem_append_right _ (List.mem_append_right _ (List.mem_append_right _ (List.mem_append_right _ (List.mem_append_right _ (List.mem_append_right _ (List.mem_append_right _ (List.mem_append_right _ (List.mem_append_right _ (List.mem_append_right _ (List.mem_append_right _ (List.mem_append_right _ (List.mem_append_right _ (List.mem_append_right _ (List.mem_append_right _ (List.mem_append_right _ (List.mem_append_right _ (List.mem_append_right _ (List.mem_append_right _ (List.mem_append_right _ (List.mem_append_right _ (List.mem_append_right _ (List.mem_append_right _ (List.mem_append_right _ (List.mem_append_right _ (List.mem_append_right _ (List.mem_append_right _ (List.mem_append_right _ (List.mem_append_left _ h))))))))))))))))))))))))))))))))))))))))))))))))))))))
theorem wsub_wsL_law_r44 : ∀ w ∈ wsL_law_r44, w ∈ wsL_law := fun _ h => (List.mem_append_left _ (List.mem_append_left _ (List.mem_append_left _ (List.mem_append_left _ (List.mem_append_left _ (List.mem_append_left _ (List.mem_append_left _ (List.mem_append_left _ (List.mem_append_left _ (List.mem_append_left _ (List.mem_append_left _ (List.mem_append_right _ (List.mem_append_right _ (List.mem_append_right _ (List.mem_append_right _ (List.mem_append_right _ (List.mem_append_right _ (List.mem_append_right _ (List.mem_append_right _ (List.mem_append_right _ (List.mem_append_right _ (List.mem_append_right _ (List.mem_append_right _ (List.mem_append_right _ (List.mem_append_right _ (List.mem_append_right _ (List.mem_append_right _ (List.mem_append_right _ (List.mem_append_right _ (List.mem_append_right _ (List.mem_append_right _ (List.mem_append_right _ (List.mem_append_right _ (List.mem_append_right _ (List.mem_append_right _ (List.mem_append_right _ (List.mem_append_right _ (List.mem_append_right _ (List.mem_append_right _ (List.mem_append_right _ (List.mem_append_right _ (List.mem_append_right _ (List.mem_append_right _ (List.mem_append_right _ (List.mem_append_right _ (List.mem_append_right _ (List.mem_append_right _ (List.mem_append_right _ (List.mem_append_right _ (List.mem_append_right _ (List.mem_append_right _ (List.mem_append_right _ (List.mem_append_right _ (List.mem_append_right _ (List.mem_append_left _ h)))))))))))))))))))))))))))))))))))))))))))))))))))))))
theorem wsub_wsL_law_r45 : ∀ w ∈ wsL_law_r45, w ∈ wsL_law := fun _ h => (List.mem_append_left _ (List.mem_append_left _ (List.mem_append_left _ (List.mem_append_left _ (List.mem_append_left _ (List.mem_append_left _ (List.mem_append_left _ (List.mem_append_left _ (List.mem_append_left _ (List.mem_append_left _ (List.mem_append_left _ (List.mem_append_right _ (List.mem_append_right _ (List.mem_append_right _ (List.mem_append_right _ (List.mem_append_right _ (List.mem_append_right _ (List.mem_append_right _ (List.mem_append_right _ (List.mem_append_right _ (List.mem_append_right _ (List.mem_append_right _ (List.mem_append_right _ (List.mem_append_right _ (List.mem_append_right _ (List.mem_append_right _ (List.mem_append_right _ (List.mem_append_right _ (List.mem_append_right _ (List.mem_append_right _ (List.mem_append_right _ (List.mem_append_right _ (List.mem_append_right _ (List.mem_append_right _ (List.mem_append_right _ (List.mem_append_right _ (List.mem_append_right _ (List.mem_append_right _ (List.mem_append_right _ (List.mem_append_right _ (List.mem_append_right _ (List.mem_append_right _ (List.mem_append_right _ (List.mem_append_right _ (List.mem_append_right _ (List.mem_append_right _ (List.mem_append_right _ (List.mem_append_right _ (List.mem_append_right _ (List.mem_append_right _ (List.mem_append_right _ (List.mem_append_right _ (List.mem_append_right _ (List.mem_append_right _ (List.mem_append_right _ (List.mem_append_left _ h))))))))))))))))))))))))))))))))))))))))))))))))))))))))
theorem wsub_wsL_law_r46 : ∀ w ∈ wsL_law_r46, w ∈ wsL_law := fun _ h => (List.mem_append_left _ (List.mem_append_left _ (List.mem_append_left _ (List.mem_append_left _ (List.mem_append_left _ (List.mem_append_left _ (List.mem_append_left _ (List.mem_append_left _ (List.mem_append_left _ (List.mem_append_left _ (List.mem_append_left _ (List.mem_append_right _ (List.mem_append_right _ (List.mem_append_right _ (List.mem_append_right _ (List.mem_append_right _ (List.mem_append_right _ (List.mem_append_right _ (List.mem_append_right _ (List.mem_append_right _ (List.mem_append_right _ (List.mem_append_right _ (List.mem_append_right _ (List.mem_append_right _ (List.mem_append_right _ (List.mem_append_right _ (List.mem_append_right _ (List.mem_append_right _ (List.mem_append_right _ (List.mem_append_right _ (List.mem_append_right _ (List.mem_append_right _ (List.mem_append_right _ (List.mem_append_right _ (List.mem_append_right _ (List.mem_append_right _ (List.mem_append_right _ (List.mem_append_right _ (List.mem_append_right _ (List.mem_append_right _ (List.mem_append_right _ (List.mem_append_right _ (List.mem_append_right _ (List.mem_append_right _ (List.mem_append_right _ (List.mem_append_right _ (List.mem_append_right _ (List.mem_append_right _ (List.mem_append_right _ (List.mem_append_right _ (List.mem_append_right _ (List.mem_append_right _ (List.mem_append_right _ (List.mem_append_right _ (List.mem_append_right _ (List.mem_append_right _ h))))))))))))))))))))))))))))))))))))))))))))))))))))))))
theorem wsL_law_in : ∀ w ∈ wsL_law, w ∈ lw_tbl := (List.forall_mem_append.mpr ⟨(List.forall_mem_append.mpr ⟨(List.forall_mem_append.mpr ⟨(List.forall_mem_append.mpr ⟨(List.forall_mem_append.mpr ⟨(List.forall_mem_append.mpr ⟨(List.forall_mem_append.mpr ⟨(List.forall_mem_append.mpr ⟨(List.forall_mem_append.mpr ⟨(List.forall_mem_append.mpr ⟨(List.forall_mem_append.mpr ⟨(List.forall_mem_append.mpr ⟨wsin_wsL_law_r1, (List.forall_mem_append.mpr ⟨wsin_wsL_law_r2, (List.forall_mem_append.mpr ⟨wsin_wsL_law_r3, (List.forall_mem_append.mpr ⟨wsin_wsL_law_r4, (List.forall_mem_append.mpr ⟨wsin_wsL_law_r5, (List.forall_mem_append.mpr ⟨wsin_wsL_law_r6, (List.forall_mem_append.mpr ⟨wsin_wsL_law_r7, (List.forall_mem_append.mpr ⟨wsin_wsL_law_r8, (List.forall_mem_append.mpr ⟨wsin_wsL_law_r9, (List.forall_mem_append.mpr ⟨wsin_wsL_law_r10, (List.forall_mem_append.mpr ⟨wsin_wsL_law_r11, (List.forall_mem_append.mpr ⟨wsin_wsL_law_r12, (List.forall_mem_append.mpr ⟨wsin_wsL_law_r13, (List.forall_mem_append.mpr ⟨wsin_wsL_law_r14, (List.forall_mem_append.mpr ⟨wsin_wsL_law_r15, (List.forall_mem_append.mpr ⟨wsin_wsL_law_r16, (List.forall_mem_append.mpr ⟨wsin_wsL_law_r17, (List.forall_mem_append.mpr ⟨wsin_wsL_law_r18, (List.forall_mem_append.mpr ⟨wsin_wsL_law_r19, (List.forall_mem_append.mpr ⟨wsin_wsL_law_r20, (List.forall_mem_append.mpr ⟨wsin_wsL_law_r21, (List.forall_mem_append.mpr ⟨wsin_wsL_law_r22, (List.forall_mem_append.mpr ⟨wsin_wsL_law_r23, (List.forall_mem_append.mpr ⟨wsin_wsL_law_r24, (List.forall_mem_append.mpr ⟨wsin_wsL_law_r25, (List.forall_mem_append.mpr ⟨wsin_wsL_law_r26, (List.forall_mem_append.mpr ⟨wsin_wsL_law_r27, (List.forall_mem_append.mpr ⟨wsin_wsL_law_r28, (List.forall_mem_append.mpr ⟨wsin_wsL_law_r29, (List.forall_mem_append.mpr ⟨wsin_wsL_law_r30, (List.forall_mem_append.mpr ⟨wsin_wsL_law_r31, (List.forall_mem_append.mpr ⟨wsin_wsL_law_r32, (List.forall_mem_append.mpr ⟨wsin_wsL_law_r33, (List.forall_mem_append.mpr ⟨wsin_wsL_law_r34, (List.forall_mem_append.mpr ⟨wsin_wsL_law_r35, (List.forall_mem_append.mpr ⟨wsin_wsL_law_r36, (List.forall_mem_append.mpr ⟨wsin_wsL_law_r37, (List.forall_mem_append.mpr ⟨wsin_wsL_law_r38, (List.forall_mem_append.mpr ⟨wsin_wsL_law_r39, (List.forall_mem_append.mpr ⟨wsin_wsL_law_r40, (List.forall_mem_append.mpr ⟨wsin_wsL_law_r41, (List.forall_mem_append.mpr ⟨wsin_wsL_law_r42, (List.forall_mem_append.mpr ⟨wsin_wsL_law_r43, (List.forall_mem_append.mpr ⟨wsin_wsL_law_r44, (List.forall_mem_append.mpr ⟨wsin_wsL_law_r45, wsin_wsL_law_r46⟩)⟩)⟩)⟩)⟩)⟩)⟩)⟩)⟩)⟩)⟩)⟩)⟩)⟩)⟩)⟩)⟩)⟩)⟩)⟩)⟩)⟩)⟩)⟩)⟩)⟩)⟩)⟩)⟩)⟩)⟩)⟩)⟩)⟩)⟩)⟩)⟩)⟩)⟩)⟩)⟩)⟩)⟩)⟩)⟩), wsin_wsX80⟩), wsin_wsX90⟩), wsin_wsX40⟩), wsin_wsX50⟩), wsin_wsX70⟩), wsin_wsX30⟩), wsin_wsX10⟩), wsin_wsX00⟩), wsin_wsX20⟩), wsin_wsX60⟩), fun _ h => absurd h List.not_mem_nil⟩)
theorem inlX0 : ∀ w ∈ wsX00, w ∈ wsL_law := fun _ h => List.mem_append_left _ (List.mem_append_left _ (List.mem_append_left _ (List.mem_append_right _ h)))
theorem inlX1 : ∀ w ∈ wsX10, w ∈ wsL_law := fun _ h => List.mem_append_left _ (List.mem_append_left _ (List.mem_append_left _ (List.mem_append_left _ (List.mem_append_right _ h))))
theorem inlX2 : ∀ w ∈ wsX20, w ∈ wsL_law := fun _ h => List.mem_append_left _ (List.mem_append_left _ (List.mem_append_right _ h))
theorem inlX3 : ∀ w ∈ wsX30, w ∈ wsL_law := fun _ h => List.mem_append_left _ (List.mem_append_left _ (List.mem_append_left _ (List.mem_append_left _ (List.mem_append_left _ (List.mem_append_right _ h)))))
theorem inlX4 : ∀ w ∈ wsX40, w ∈ wsL_law := fun _ h => List.mem_append_left _ (List.mem_append_left _ (List.mem_append_left _ (List.mem_append_left _ (List.mem_append_left _ (List.mem_append_left _ (List.mem_append_left _ (List.mem_append_left _ (List.mem_append_right _ h))))))))
theorem inlX5 : ∀ w ∈ wsX50, w ∈ wsL_law := fun _ h => List.mem_append_left _ (List.mem_append_left _ (List.mem_append_left _ (List.mem_append_left _ (List.mem_append_left _ (List.mem_append_left _ (List.mem_append_left _ (List.mem_append_right _ h)))))))
theorem inlX6 : ∀ w ∈ wsX60, w ∈ wsL_law := fun _ h => List.mem_append_left _ (List.mem_append_right _ h)
theorem inlX7 : ∀ w ∈ wsX70, w ∈ wsL_law := fun _ h => List.mem_append_left _ (List.mem_append_left _ (List.mem_append_left _ (List.mem_append_left _ (List.mem_append_left _ (List.mem_append_left _ (List.mem_append_right _ h))))))
theorem inlX8 : ∀ w ∈ wsX80, w ∈ wsL_law := fun _ h => List.mem_append_left _ (List.mem_append_left _ (List.mem_append_left _ (List.mem_append_left _ (List.mem_append_left _ (List.mem_append_left _ (List.mem_append_left _ (List.mem_append_left _ (List.mem_append_left _ (List.mem_append_left _ (List.mem_append_right _ h))))))))))
theorem inlX9 : ∀ w ∈ wsX90, w ∈ wsL_law := fun _ h => List.mem_append_left _ (List.mem_append_left _ (List.mem_append_left _ (List.mem_append_left _ (List.mem_append_left _ (List.mem_append_left _ (List.mem_append_left _ (List.mem_append_left _ (List.mem_append_left _ (List.mem_append_right _ h)))))))))
theorem dJ9_max_7cf53_0 : decode cJ9_max_7cf53 0 = .ok (.iload_n 0, 1) := by decide +kernel
theorem dJ9_max_7cf53_1 : decode cJ9_max_7cf53 1 = .ok (.iload_n 1, 1) := by decide +kernel
theorem dJ9_max_7cf53_2 : decode cJ9_max_7cf53 2 = .ok (.if_icmp .lt 7, 3) := by decide +kernel
theorem dJ9_max_7cf53_5 : decode cJ9_max_7cf53 5 = .ok (.iload_n 0, 1) := by decide +kernel
theorem dJ9_max_7cf53_6 : decode cJ9_max_7cf53 6 = .ok (.goto 4, 3) := by decide +kernel
theorem dJ9_max_7cf53_9 : decode cJ9_max_7cf53 9 = .ok (.iload_n 1, 1) := by decide +kernel
theorem dJ9_max_7cf53_10 : decode cJ9_max_7cf53 10 = .ok (.ireturn, 1) := by decide +kernel
theorem dJ0_length_8abf5_0 : decode cJ0_length_8abf5 0 = .ok (.aload_n 0, 1) := by decide +kernel
theorem dJ0_length_8abf5_1 : decode cJ0_length_8abf5 1 = .ok (.getfield 9, 3) := by decide +kernel
theorem dJ0_length_8abf5_4 : decode cJ0_length_8abf5 4 = .ok (.arraylength, 1) := by decide +kernel
theorem dJ0_length_8abf5_5 : decode cJ0_length_8abf5 5 = .ok (.aload_n 0, 1) := by decide +kernel
theorem dJ0_length_8abf5_6 : decode cJ0_length_8abf5 6 = .ok (.invokevirtual 335, 3) := by decide +kernel
theorem dJ0_length_8abf5_9 : decode cJ0_length_8abf5 9 = .ok (.ishr, 1) := by decide +kernel
theorem dJ0_length_8abf5_10 : decode cJ0_length_8abf5 10 = .ok (.ireturn, 1) := by decide +kernel
theorem dJ0_charAt_5068e_0 : decode cJ0_charAt_5068e 0 = .ok (.aload_n 0, 1) := by decide +kernel
theorem dJ0_charAt_5068e_1 : decode cJ0_charAt_5068e 1 = .ok (.invokevirtual 492, 3) := by decide +kernel
theorem dJ0_charAt_5068e_4 : decode cJ0_charAt_5068e 4 = .ok (.ifCond .eq 12, 3) := by decide +kernel
theorem dJ0_charAt_5068e_7 : decode cJ0_charAt_5068e 7 = .ok (.aload_n 0, 1) := by decide +kernel
theorem dJ0_charAt_5068e_8 : decode cJ0_charAt_5068e 8 = .ok (.getfield 9, 3) := by decide +kernel
theorem dJ0_charAt_5068e_11 : decode cJ0_charAt_5068e 11 = .ok (.iload_n 1, 1) := by decide +kernel
theorem dJ0_charAt_5068e_12 : decode cJ0_charAt_5068e 12 = .ok (.invokestatic 495, 3) := by decide +kernel
theorem dJ0_charAt_5068e_15 : decode cJ0_charAt_5068e 15 = .ok (.ireturn, 1) := by decide +kernel
theorem dJ0_charAt_5068e_16 : decode cJ0_charAt_5068e 16 = .ok (.aload_n 0, 1) := by decide +kernel
theorem dJ0_charAt_5068e_17 : decode cJ0_charAt_5068e 17 = .ok (.getfield 9, 3) := by decide +kernel
theorem dJ0_charAt_5068e_20 : decode cJ0_charAt_5068e 20 = .ok (.iload_n 1, 1) := by decide +kernel
theorem dJ0_charAt_5068e_21 : decode cJ0_charAt_5068e 21 = .ok (.invokestatic 498, 3) := by decide +kernel
theorem dJ0_charAt_5068e_24 : decode cJ0_charAt_5068e 24 = .ok (.ireturn, 1) := by decide +kernel
theorem dJ0_coder_7d493_0 : decode cJ0_coder_7d493 0 = .ok (.getstatic 38, 3) := by decide +kernel
theorem dJ0_coder_7d493_3 : decode cJ0_coder_7d493 3 = .ok (.ifCond .eq 10, 3) := by decide +kernel
theorem dJ0_coder_7d493_6 : decode cJ0_coder_7d493 6 = .ok (.aload_n 0, 1) := by decide +kernel
theorem dJ0_coder_7d493_7 : decode cJ0_coder_7d493 7 = .ok (.getfield 15, 3) := by decide +kernel
theorem dJ0_coder_7d493_10 : decode cJ0_coder_7d493 10 = .ok (.goto 4, 3) := by decide +kernel
theorem dJ0_coder_7d493_13 : decode cJ0_coder_7d493 13 = .ok (.iconst 1, 1) := by decide +kernel
theorem dJ0_coder_7d493_14 : decode cJ0_coder_7d493 14 = .ok (.ireturn, 1) := by decide +kernel
theorem dJ0_isLatin1_aae02_0 : decode cJ0_isLatin1_aae02 0 = .ok (.getstatic 38, 3) := by decide +kernel
theorem dJ0_isLatin1_aae02_3 : decode cJ0_isLatin1_aae02 3 = .ok (.ifCond .eq 14, 3) := by decide +kernel
theorem dJ0_isLatin1_aae02_6 : decode cJ0_isLatin1_aae02 6 = .ok (.aload_n 0, 1) := by decide +kernel
theorem dJ0_isLatin1_aae02_7 : decode cJ0_isLatin1_aae02 7 = .ok (.getfield 15, 3) := by decide +kernel
theorem dJ0_isLatin1_aae02_10 : decode cJ0_isLatin1_aae02 10 = .ok (.ifCond .ne 7, 3) := by decide +kernel
theorem dJ0_isLatin1_aae02_13 : decode cJ0_isLatin1_aae02 13 = .ok (.iconst 1, 1) := by decide +kernel
theorem dJ0_isLatin1_aae02_14 : decode cJ0_isLatin1_aae02 14 = .ok (.goto 4, 3) := by decide +kernel
theorem dJ0_isLatin1_aae02_17 : decode cJ0_isLatin1_aae02 17 = .ok (.iconst 0, 1) := by decide +kernel
theorem dJ0_isLatin1_aae02_18 : decode cJ0_isLatin1_aae02 18 = .ok (.ireturn, 1) := by decide +kernel
theorem dJ0_checkIndex_df160_0 : decode cJ0_checkIndex_df160 0 = .ok (.iload_n 0, 1) := by decide +kernel
theorem dJ0_checkIndex_df160_1 : decode cJ0_checkIndex_df160 1 = .ok (.iload_n 1, 1) := by decide +kernel
theorem dJ0_checkIndex_df160_2 : decode cJ0_checkIndex_df160 2 = .ok (.getstatic 1053, 3) := by decide +kernel
theorem dJ0_checkIndex_df160_5 : decode cJ0_checkIndex_df160 5 = .ok (.invokestatic 1059, 3) := by decide +kernel
theorem dJ0_checkIndex_df160_8 : decode cJ0_checkIndex_df160 8 = .ok (.pop, 1) := by decide +kernel
theorem dJ0_checkIndex_df160_9 : decode cJ0_checkIndex_df160 9 = .ok (.return_, 1) := by decide +kernel
theorem dJ1_charAt_3b067_0 : decode cJ1_charAt_3b067 0 = .ok (.iload_n 1, 1) := by decide +kernel
theorem dJ1_charAt_3b067_1 : decode cJ1_charAt_3b067 1 = .ok (.aload_n 0, 1) := by decide +kernel
theorem dJ1_charAt_3b067_2 : decode cJ1_charAt_3b067 2 = .ok (.arraylength, 1) := by decide +kernel
theorem dJ1_charAt_3b067_3 : decode cJ1_charAt_3b067 3 = .ok (.invokestatic 9, 3) := by decide +kernel
theorem dJ1_charAt_3b067_6 : decode cJ1_charAt_3b067 6 = .ok (.aload_n 0, 1) := by decide +kernel
theorem dJ1_charAt_3b067_7 : decode cJ1_charAt_3b067 7 = .ok (.iload_n 1, 1) := by decide +kernel
theorem dJ1_charAt_3b067_8 : decode cJ1_charAt_3b067 8 = .ok (.baload, 1) := by decide +kernel
theorem dJ1_charAt_3b067_9 : decode cJ1_charAt_3b067 9 = .ok (.sipush 255, 3) := by decide +kernel
theorem dJ1_charAt_3b067_12 : decode cJ1_charAt_3b067 12 = .ok (.iand, 1) := by decide +kernel
theorem dJ1_charAt_3b067_13 : decode cJ1_charAt_3b067 13 = .ok (.i2c, 1) := by decide +kernel
theorem dJ1_charAt_3b067_14 : decode cJ1_charAt_3b067 14 = .ok (.ireturn, 1) := by decide +kernel
theorem dJ2_getChar_3b067_0 : decode cJ2_getChar_3b067 0 = .ok (.getstatic 44, 3) := by decide +kernel
theorem dJ2_getChar_3b067_3 : decode cJ2_getChar_3b067 3 = .ok (.ifCond .ne 25, 3) := by decide +kernel
theorem dJ2_getChar_3b067_6 : decode cJ2_getChar_3b067 6 = .ok (.iload_n 1, 1) := by decide +kernel
theorem dJ2_getChar_3b067_7 : decode cJ2_getChar_3b067 7 = .ok (.ifCond .lt 11, 3) := by decide +kernel
theorem dJ2_getChar_3b067_10 : decode cJ2_getChar_3b067 10 = .ok (.iload_n 1, 1) := by decide +kernel
theorem dJ2_getChar_3b067_11 : decode cJ2_getChar_3b067 11 = .ok (.aload_n 0, 1) := by decide +kernel
theorem dJ2_getChar_3b067_12 : decode cJ2_getChar_3b067 12 = .ok (.invokestatic 48, 3) := by decide +kernel
theorem dJ2_getChar_3b067_15 : decode cJ2_getChar_3b067 15 = .ok (.if_icmp .lt 13, 3) := by decide +kernel
theorem dJ2_getChar_3b067_18 : decode cJ2_getChar_3b067 18 = .ok (.new 52, 3) := by decide +kernel
theorem dJ2_getChar_3b067_21 : decode cJ2_getChar_3b067 21 = .ok (.dup, 1) := by decide +kernel
theorem dJ2_getChar_3b067_22 : decode cJ2_getChar_3b067 22 = .ok (.ldc 54, 2) := by decide +kernel
theorem dJ2_getChar_3b067_24 : decode cJ2_getChar_3b067 24 = .ok (.invokespecial 56, 3) := by decide +kernel
theorem dJ2_getChar_3b067_27 : decode cJ2_getChar_3b067 27 = .ok (.athrow, 1) := by decide +kernel
theorem dJ2_getChar_3b067_28 : decode cJ2_getChar_3b067 28 = .ok (.iload_n 1, 1) := by decide +kernel
theorem dJ2_getChar_3b067_29 : decode cJ2_getChar_3b067 29 = .ok (.iconst 1, 1) := by decide +kernel
theorem dJ2_getChar_3b067_30 : decode cJ2_getChar_3b067 30 = .ok (.ishl, 1) := by decide +kernel
theorem dJ2_getChar_3b067_31 : decode cJ2_getChar_3b067 31 = .ok (.istore_n 1, 1) := by decide +kernel
theorem dJ2_getChar_3b067_32 : decode cJ2_getChar_3b067 32 = .ok (.aload_n 0, 1) := by decide +kernel
theorem dJ2_getChar_3b067_33 : decode cJ2_getChar_3b067 33 = .ok (.iload_n 1, 1) := by decide +kernel
theorem dJ2_getChar_3b067_34 : decode cJ2_getChar_3b067 34 = .ok (.iinc 1 1, 3) := by decide +kernel
theorem dJ2_getChar_3b067_37 : decode cJ2_getChar_3b067 37 = .ok (.baload, 1) := by decide +kernel
theorem dJ2_getChar_3b067_38 : decode cJ2_getChar_3b067 38 = .ok (.sipush 255, 3) := by decide +kernel
theorem dJ2_getChar_3b067_41 : decode cJ2_getChar_3b067 41 = .ok (.iand, 1) := by decide +kernel
theorem dJ2_getChar_3b067_42 : decode cJ2_getChar_3b067 42 = .ok (.getstatic 59, 3) := by decide +kernel
theorem dJ2_getChar_3b067_45 : decode cJ2_getChar_3b067 45 = .ok (.ishl, 1) := by decide +kernel
theorem dJ2_getChar_3b067_46 : decode cJ2_getChar_3b067 46 = .ok (.aload_n 0, 1) := by decide +kernel
theorem dJ2_getChar_3b067_47 : decode cJ2_getChar_3b067 47 = .ok (.iload_n 1, 1) := by decide +kernel
theorem dJ2_getChar_3b067_48 : decode cJ2_getChar_3b067 48 = .ok (.baload, 1) := by decide +kernel
theorem dJ2_getChar_3b067_49 : decode cJ2_getChar_3b067 49 = .ok (.sipush 255, 3) := by decide +kernel
theorem dJ2_getChar_3b067_52 : decode cJ2_getChar_3b067 52 = .ok (.iand, 1) := by decide +kernel
theorem dJ2_getChar_3b067_53 : decode cJ2_getChar_3b067 53 = .ok (.getstatic 63, 3) := by decide +kernel
theorem dJ2_getChar_3b067_56 : decode cJ2_getChar_3b067 56 = .ok (.ishl, 1) := by decide +kernel
theorem dJ2_getChar_3b067_57 : decode cJ2_getChar_3b067 57 = .ok (.ior, 1) := by decide +kernel
theorem dJ2_getChar_3b067_58 : decode cJ2_getChar_3b067 58 = .ok (.i2c, 1) := by decide +kernel
theorem dJ2_getChar_3b067_59 : decode cJ2_getChar_3b067 59 = .ok (.ireturn, 1) := by decide +kernel
theorem dJ2_length_9d52b_0 : decode cJ2_length_9d52b 0 = .ok (.aload_n 0, 1) := by decide +kernel
theorem dJ2_length_9d52b_1 : decode cJ2_length_9d52b 1 = .ok (.arraylength, 1) := by decide +kernel
theorem dJ2_length_9d52b_2 : decode cJ2_length_9d52b 2 = .ok (.iconst 1, 1) := by decide +kernel
theorem dJ2_length_9d52b_3 : decode cJ2_length_9d52b 3 = .ok (.ishr, 1) := by decide +kernel
theorem dJ2_length_9d52b_4 : decode cJ2_length_9d52b 4 = .ok (.ireturn, 1) := by decide +kernel
theorem dJ2_charAt_3b067_0 : decode cJ2_charAt_3b067 0 = .ok (.iload_n 1, 1) := by decide +kernel
theorem dJ2_charAt_3b067_1 : decode cJ2_charAt_3b067 1 = .ok (.aload_n 0, 1) := by decide +kernel
theorem dJ2_charAt_3b067_2 : decode cJ2_charAt_3b067 2 = .ok (.invokestatic 67, 3) := by decide +kernel
theorem dJ2_charAt_3b067_5 : decode cJ2_charAt_3b067 5 = .ok (.aload_n 0, 1) := by decide +kernel
theorem dJ2_charAt_3b067_6 : decode cJ2_charAt_3b067 6 = .ok (.iload_n 1, 1) := by decide +kernel
theorem dJ2_charAt_3b067_7 : decode cJ2_charAt_3b067 7 = .ok (.invokestatic 71, 3) := by decide +kernel
theorem dJ2_charAt_3b067_10 : decode cJ2_charAt_3b067 10 = .ok (.ireturn, 1) := by decide +kernel
theorem dJ2_checkIndex_2214a_0 : decode cJ2_checkIndex_2214a 0 = .ok (.iload_n 0, 1) := by decide +kernel
theorem dJ2_checkIndex_2214a_1 : decode cJ2_checkIndex_2214a 1 = .ok (.aload_n 1, 1) := by decide +kernel
theorem dJ2_checkIndex_2214a_2 : decode cJ2_checkIndex_2214a 2 = .ok (.invokestatic 48, 3) := by decide +kernel
theorem dJ2_checkIndex_2214a_5 : decode cJ2_checkIndex_2214a 5 = .ok (.invokestatic 414, 3) := by decide +kernel
theorem dJ2_checkIndex_2214a_8 : decode cJ2_checkIndex_2214a 8 = .ok (.return_, 1) := by decide +kernel
theorem dJ3_checkIndex_8e157_0 : decode cJ3_checkIndex_8e157 0 = .ok (.iload_n 0, 1) := by decide +kernel
theorem dJ3_checkIndex_8e157_1 : decode cJ3_checkIndex_8e157 1 = .ok (.ifCond .lt 8, 3) := by decide +kernel
theorem dJ3_checkIndex_8e157_4 : decode cJ3_checkIndex_8e157 4 = .ok (.iload_n 0, 1) := by decide +kernel
theorem dJ3_checkIndex_8e157_5 : decode cJ3_checkIndex_8e157 5 = .ok (.iload_n 1, 1) := by decide +kernel
theorem dJ3_checkIndex_8e157_6 : decode cJ3_checkIndex_8e157 6 = .ok (.if_icmp .lt 10, 3) := by decide +kernel
theorem dJ3_checkIndex_8e157_9 : decode cJ3_checkIndex_8e157 9 = .ok (.aload_n 2, 1) := by decide +kernel
theorem dJ3_checkIndex_8e157_10 : decode cJ3_checkIndex_8e157 10 = .ok (.iload_n 0, 1) := by decide +kernel
theorem dJ3_checkIndex_8e157_11 : decode cJ3_checkIndex_8e157 11 = .ok (.iload_n 1, 1) := by decide +kernel
theorem dJ3_checkIndex_8e157_12 : decode cJ3_checkIndex_8e157 12 = .ok (.invokestatic 95, 3) := by decide +kernel
theorem dJ3_checkIndex_8e157_15 : decode cJ3_checkIndex_8e157 15 = .ok (.athrow, 1) := by decide +kernel
theorem dJ3_checkIndex_8e157_16 : decode cJ3_checkIndex_8e157 16 = .ok (.iload_n 0, 1) := by decide +kernel
theorem dJ3_checkIndex_8e157_17 : decode cJ3_checkIndex_8e157 17 = .ok (.ireturn, 1) := by decide +kernel
abbrev vwCl : List vw_C := [(RX0, TX0, 16), (RX1, TX1, 3), (RX2, TX2, 2), (RX3, TX3, 10), (RX4, TX4, 3), (RX5, TX5, 15), (RX6, TX6, 5), (RX7, TX7, 2), (RX8, TX8, 6), (RX9, TX9, 44)]
end
section
/-! A layer of abstract states over the kit's worlds: a world is a list of rows (an array of numbers, an array of references, an object); a reference is a place in that list; what the rows hold is a pair of functions of places. -/
abbrev ax_V : Type := Int32 ⊕ Nat
abbrev ax_S : Type := (Nat → Nat → Int32) × (Nat → Nat → Int32)
abbrev ax_E : Type := (FieldType × Nat) ⊕ ((String × List Nat) ⊕ (Nat × List (Option Nat)))
abbrev ax_L : Type := List ax_E
abbrev ax_C : Type := Program × Launch × Env × Room × State × MethodId × Array Value × List Frame × Method × Code
abbrev ax_X : Type := va_G × (Nat → Nat) × (Nat → ClassId) × (Nat → Prop)
abbrev ax_R : Type := Option (Int32 × ax_S)
def ax_val (ad : Nat → Nat) : ax_V → Value
  | .inl i => .int i
  | .inr o => .ref (ad o)
def ax_fld (ad : Nat → Nat) (st : ax_S) (o k : Nat) : Option Nat → Value
  | none => .int (st.1 o k)
  | some q => .ref (ad q)
def ax_cell (ad : Nat → Nat) (ca : Nat → ClassId) (st : ax_S) (o : Nat) : ax_E → va_E
  | .inl q => .inl (ca o, q.2, .inl (st.2 o))
  | .inr (.inl q) => .inl (ca o, q.2.length, .inr (.inr (.inr (.inr (fun j => (q.2[j]?).map ad)))))
  | .inr (.inr q) => .inr (q.1, q.2.mapIdx (ax_fld ad st o))
def ax_W (L : ax_L) (ad : Nat → Nat) (ca : Nat → ClassId) (st : ax_S) : va_W := L.mapIdx (fun o e => (ad o, ax_cell ad ca st o e))
def ax_sI (st : ax_S) (o k : Nat) (v : Int32) : ax_S := (fun a b => if a = o ∧ b = k then v else st.1 a b, st.2)
def ax_sA (st : ax_S) (o : Nat) (f : Nat → Int32) : ax_S := (st.1, fun a => if a = o then f else st.2 a)
def ax_sE (st : ax_S) (o i : Nat) (x : Int32) : ax_S := ax_sA st o (upd (st.2 o) i x)
theorem ax_W_at (L : ax_L) (ad : Nat → Nat) (ca : Nat → ClassId) (st : ax_S) (o : Nat) : (ax_W L ad ca st)[o]? = (L[o]?).map (fun e => (ad o, ax_cell ad ca st o e)) := by
  simp [ax_W, List.getElem?_mapIdx]
theorem ax_W_of {L : ax_L} {ad : Nat → Nat} {ca : Nat → ClassId} {st : ax_S} {o : Nat} {e : ax_E} (h : L[o]? = some e) : (ax_W L ad ca st)[o]? = some (ad o, ax_cell ad ca st o e) := by
  rw [ax_W_at, h]; rfl
theorem ax_W_in {L : ax_L} {ad : Nat → Nat} {ca : Nat → ClassId} {st : ax_S} {k : Nat} {q : Nat × va_E} (h : (ax_W L ad ca st)[k]? = some q) : ∃ e, L[k]? = some e ∧ q = (ad k, ax_cell ad ca st k e) := by
  rw [ax_W_at] at h
  cases hL : L[k]? with
  | none => rw [hL] at h; cases h
  | some e => rw [hL] at h; exact ⟨e, rfl, (Option.some.inj h).symm⟩
theorem ax_cell_I {ad : Nat → Nat} {ca : Nat → ClassId} {st : ax_S} {o k i : Nat} {v : Int32} (h : i ≠ o) (e : ax_E) : ax_cell ad ca (ax_sI st o k v) i e = ax_cell ad ca st i e := by
  rcases e with q | q | q
  · rfl
  · rfl
  · show Sum.inr (q.1, q.2.mapIdx _) = Sum.inr (q.1, q.2.mapIdx _)
    have : ax_fld ad (ax_sI st o k v) i = ax_fld ad st i := by
      funext j f
      cases f with
      | none => simp [ax_fld, ax_sI, h]
      | some q => rfl
    rw [this]
theorem ax_cell_A {ad : Nat → Nat} {ca : Nat → ClassId} {st : ax_S} {o i : Nat} {f : Nat → Int32} (h : i ≠ o) (e : ax_E) : ax_cell ad ca (ax_sA st o f) i e = ax_cell ad ca st i e := by
  rcases e with q | q | q
  · show Sum.inl (ca i, q.2, Sum.inl ((ax_sA st o f).2 i)) = _
    have : (ax_sA st o f).2 i = st.2 i := by simp [ax_sA, h]
    rw [this]; rfl
  · rfl
  · rfl
theorem ax_W_len (L : ax_L) (ad : Nat → Nat) (ca : Nat → ClassId) (st : ax_S) : (ax_W L ad ca st).length = L.length := by simp [ax_W]
theorem ax_setI {L : ax_L} {ad : Nat → Nat} {ca : Nat → ClassId} {st : ax_S} {o k ci : Nat} {fs : List (Option Nat)} {v : Int32} (he : L[o]? = some (.inr (.inr (ci, fs)))) (hf : fs[k]? = some none) : (ax_W L ad ca st).set o (ad o, .inr (ci, (fs.mapIdx (ax_fld ad st o)).set k (.int v))) = ax_W L ad ca (ax_sI st o k v) := by
  have hlen : o < L.length := (List.getElem?_eq_some_iff.mp he).1
  apply List.ext_getElem?
  intro i
  rw [List.getElem?_set, ax_W_at, ax_W_at]
  by_cases h : o = i
  · subst h
    rw [if_pos rfl, if_pos (by rw [ax_W_len]; exact hlen), he]
    show some (ad o, Sum.inr (ci, _)) = some (ad o, Sum.inr (ci, _))
    have : (fs.mapIdx (ax_fld ad st o)).set k (.int v) = fs.mapIdx (ax_fld ad (ax_sI st o k v) o) := by
      apply List.ext_getElem?
      intro j
      rw [List.getElem?_set, List.getElem?_mapIdx, List.getElem?_mapIdx]
      by_cases hj : k = j
      · subst hj
        have hk : k < fs.length := (List.getElem?_eq_some_iff.mp hf).1
        rw [if_pos rfl, if_pos (by simpa using hk), hf]
        simp [ax_fld, ax_sI]
      · rw [if_neg hj]
        cases hF : fs[j]? with
        | none => rfl
        | some f =>
          cases f with
          | none => simp [ax_fld, ax_sI, Ne.symm hj]
          | some q => rfl
    rw [this]
  · rw [if_neg h]
    cases hL : L[i]? with
    | none => rfl
    | some e => simp only [Option.map_some, ax_cell_I (Ne.symm h)]
theorem ax_setA {L : ax_L} {ad : Nat → Nat} {ca : Nat → ClassId} {st : ax_S} {o n : Nat} {ty : FieldType} {f : Nat → Int32} (he : L[o]? = some (.inl (ty, n))) : (ax_W L ad ca st).set o (ad o, .inl (ca o, n, .inl f)) = ax_W L ad ca (ax_sA st o f) := by
  have hlen : o < L.length := (List.getElem?_eq_some_iff.mp he).1
  apply List.ext_getElem?
  intro i
  rw [List.getElem?_set, ax_W_at, ax_W_at]
  by_cases h : o = i
  · subst h
    rw [if_pos rfl, if_pos (by rw [ax_W_len]; exact hlen), he]
    simp [ax_cell, ax_sA]
  · rw [if_neg h]
    cases hL : L[i]? with
    | none => rfl
    | some e => simp only [Option.map_some, ax_cell_A (Ne.symm h)]
/-- the addresses are apart -/
def ax_inj (L : ax_L) (ad : Nat → Nat) : Prop := ∀ i j, i < L.length → j < L.length → ad i = ad j → i = j
theorem ax_W_D {L : ax_L} {ad : Nat → Nat} {ca : Nat → ClassId} {A : Nat → Prop} (st : ax_S) (hi : ax_inj L ad) (hA : ∀ o, o < L.length → A (ad o)) : va_D A (ax_W L ad ca st) := by
  refine ⟨fun i j p q h1 h2 h => ?_, fun k q h => ?_⟩
  · obtain ⟨e1, g1, rfl⟩ := ax_W_in h1
    obtain ⟨e2, g2, rfl⟩ := ax_W_in h2
    exact hi i j (List.getElem?_eq_some_iff.mp g1).1 (List.getElem?_eq_some_iff.mp g2).1 h
  · obtain ⟨e1, g1, rfl⟩ := ax_W_in h
    exact hA k (List.getElem?_eq_some_iff.mp g1).1
/-- the cells that a method on this world may write -/
def ax_A (L : ax_L) (ad : Nat → Nat) (sz : Nat) : Nat → Prop := fun q => (∃ o, o < L.length ∧ q = ad o) ∨ sz ≤ q
def ax_K (D : va_G) (L : ax_L) (ca : Nat → ClassId) (U : State) : Prop := va_K D vwCl [] U ∧ (∀ o ty n, L[o]? = some (.inl (ty, n)) → ArrOfT U (ca o) ty ∧ va_RA U (ca o) ty) ∧ ∀ o C qs, L[o]? = some (.inr (.inl (C, qs))) → ArrOfT U (ca o) (.object C) ∧ va_RA U (ca o) (.object C)
theorem ax_K.moved {D : va_G} {L : ax_L} {ca : Nat → ClassId} {u U : State} (hvm : u.vm.Alike U.vm) (h : ax_K D L ca u) : ax_K D L ca U :=
  ⟨va_K.moved hvm h.1, fun o ty n ho => ⟨arrOfT_moved hvm (h.2.1 o ty n ho).1, (h.2.1 o ty n ho).2.moved hvm⟩, fun o C qs ho => ⟨arrOfT_moved hvm (h.2.2 o C qs ho).1, (h.2.2 o C qs ho).2.moved hvm⟩⟩
theorem ax_K.one {D : va_G} {L : ax_L} {ca : Nat → ClassId} {U : State} (h : ax_K D L ca U) {o n : Nat} {ty : FieldType} (he : L[o]? = some (.inl (ty, n))) : va_K D vwCl [(ca o, ty)] U := by
  refine ⟨h.1.1, fun k q hk => ?_⟩
  cases k with
  | zero => cases hk; exact h.2.1 o ty n he
  | succ k => cases hk
theorem ax_K.ref {D : va_G} {L : ax_L} {ca : Nat → ClassId} {U : State} (h : ax_K D L ca U) {o : Nat} {C : String} {qs : List Nat} (he : L[o]? = some (.inr (.inl (C, qs)))) : va_K D vwCl [(ca o, .object C)] U := by
  refine ⟨h.1.1, fun k q hk => ?_⟩
  cases k with
  | zero => cases hk; exact h.2.2 o C qs he
  | succ k => cases hk
/-- the texts of the operations' names -/
def ax_tx : List String := ["read", "write", "compareAndSet", "get", "add", "enqueue", "dequeue", "insert", "remove", "contains"]
def ax_byt : List (List Int32) := ax_tx.map (fun t => t.toList.map (fun c => Int32.ofNat c.toNat))
def ax_len : List Nat := ax_byt.map List.length
def ax_pool (i : Nat) : Nat := 284 + 2 * i
def ax_nest : List Cond := [.methodLinkNest "LinearizabilityChecker" 11 ⟨"LinearizabilityChecker$Recording", "<init>", "()V"⟩ "LinearizabilityChecker",
  .methodLinkNest "LinearizabilityChecker$Recording" 9 ⟨"LinearizabilityChecker$ObjectTable", "<init>", "()V"⟩ "LinearizabilityChecker",
  .fieldLinkNest "LinearizabilityChecker$Recording" 30 "LinearizabilityChecker$ObjectTable" "count" "I" "LinearizabilityChecker",
  .fieldLinkNest "LinearizabilityChecker$Search" 77 "LinearizabilityChecker$ObjectTable" "count" "I" "LinearizabilityChecker",
  .fieldLinkNest "LinearizabilityChecker" 60 "LinearizabilityChecker$ObjectTable" "count" "I" "LinearizabilityChecker",
  .fieldLinkNest "LinearizabilityChecker" 70 "LinearizabilityChecker$ObjectTable" "types" "[I" "LinearizabilityChecker",
  .fieldLinkNest "LinearizabilityChecker$Search" 82 "LinearizabilityChecker$ObjectTable" "initials" "[I" "LinearizabilityChecker",
  .fieldLinkNest "LinearizabilityChecker" 78 "LinearizabilityChecker$History" "events" "I" "LinearizabilityChecker",
  .fieldLinkNest "LinearizabilityChecker$Search" 54 "LinearizabilityChecker$History" "operations" "I" "LinearizabilityChecker",
  .fieldLinkNest "LinearizabilityChecker" 123 "LinearizabilityChecker$History" "operations" "I" "LinearizabilityChecker",
  .fieldLinkNest "LinearizabilityChecker$Search" 128 "LinearizabilityChecker$History" "kinds" "[I" "LinearizabilityChecker",
  .fieldLinkNest "LinearizabilityChecker" 127 "LinearizabilityChecker$History" "kinds" "[I" "LinearizabilityChecker",
  .fieldLinkNest "LinearizabilityChecker$Search" 93 "LinearizabilityChecker$History" "threads" "[I" "LinearizabilityChecker",
  .fieldLinkNest "LinearizabilityChecker" 130 "LinearizabilityChecker$History" "threads" "[I" "LinearizabilityChecker",
  .fieldLinkNest "LinearizabilityChecker$Search" 59 "LinearizabilityChecker$History" "objects" "[I" "LinearizabilityChecker",
  .fieldLinkNest "LinearizabilityChecker" 133 "LinearizabilityChecker$History" "objects" "[I" "LinearizabilityChecker",
  .fieldLinkNest "LinearizabilityChecker$Search" 131 "LinearizabilityChecker$History" "firstArguments" "[I" "LinearizabilityChecker",
  .fieldLinkNest "LinearizabilityChecker$Search" 134 "LinearizabilityChecker$History" "secondArguments" "[I" "LinearizabilityChecker",
  .fieldLinkNest "LinearizabilityChecker$Search" 61 "LinearizabilityChecker$History" "invokedAt" "[I" "LinearizabilityChecker",
  .fieldLinkNest "LinearizabilityChecker" 135 "LinearizabilityChecker$History" "invokedAt" "[I" "LinearizabilityChecker",
  .fieldLinkNest "LinearizabilityChecker$Search" 68 "LinearizabilityChecker$History" "respondedAt" "[I" "LinearizabilityChecker",
  .fieldLinkNest "LinearizabilityChecker" 141 "LinearizabilityChecker$History" "respondedAt" "[I" "LinearizabilityChecker",
  .fieldLinkNest "LinearizabilityChecker$Search" 71 "LinearizabilityChecker$History" "results" "[I" "LinearizabilityChecker",
  .fieldLinkNest "LinearizabilityChecker" 144 "LinearizabilityChecker$History" "results" "[I" "LinearizabilityChecker",
  .fieldLinkNest "LinearizabilityChecker" 93 "LinearizabilityChecker$History" "pendingOperation" "[I" "LinearizabilityChecker",
  .fieldLinkNest "LinearizabilityChecker" 112 "LinearizabilityChecker$History" "crashed" "[Z" "LinearizabilityChecker",
  .methodLinkNest "LinearizabilityChecker$Recording" 25 ⟨"LinearizabilityChecker$OrderBuffer", "<init>", "()V"⟩ "LinearizabilityChecker",
  .fieldLinkNest "LinearizabilityChecker$Search" 111 "LinearizabilityChecker$OrderBuffer" "size" "I" "LinearizabilityChecker",
  .fieldLinkNest "LinearizabilityChecker" 216 "LinearizabilityChecker$OrderBuffer" "size" "I" "LinearizabilityChecker",
  .fieldLinkNest "LinearizabilityChecker$Search" 116 "LinearizabilityChecker$OrderBuffer" "operations" "[I" "LinearizabilityChecker",
  .fieldLinkNest "LinearizabilityChecker" 222 "LinearizabilityChecker$OrderBuffer" "operations" "[I" "LinearizabilityChecker",
  .fieldLinkNest "LinearizabilityChecker$Search" 31 "LinearizabilityChecker$Recording" "objects" "LLinearizabilityChecker$ObjectTable;" "LinearizabilityChecker",
  .fieldLinkNest "LinearizabilityChecker" 56 "LinearizabilityChecker$Recording" "objects" "LLinearizabilityChecker$ObjectTable;" "LinearizabilityChecker",
  .fieldLinkNest "LinearizabilityChecker$Search" 38 "LinearizabilityChecker$Recording" "history" "LLinearizabilityChecker$History;" "LinearizabilityChecker",
  .fieldLinkNest "LinearizabilityChecker" 74 "LinearizabilityChecker$Recording" "history" "LLinearizabilityChecker$History;" "LinearizabilityChecker",
  .fieldLinkNest "LinearizabilityChecker" 100 "LinearizabilityChecker$Recording" "order" "LLinearizabilityChecker$OrderBuffer;" "LinearizabilityChecker",
  .methodLinkNest "LinearizabilityChecker$Search" 43 ⟨"LinearizabilityChecker$SharedState", "<init>", "()V"⟩ "LinearizabilityChecker",
  .fieldLinkNest "LinearizabilityChecker$Search" 152 "LinearizabilityChecker$SharedState" "value" "I" "LinearizabilityChecker",
  .fieldLinkNest "LinearizabilityChecker" 187 "LinearizabilityChecker$Search" "sequence" "[I" "LinearizabilityChecker",
  .fieldLinkNest "LinearizabilityChecker" 184 "LinearizabilityChecker$Search" "foundLength" "I" "LinearizabilityChecker",
  .methodLinkNest "LinearizabilityChecker" 30 ⟨"LinearizabilityChecker$TextBuffer", "<init>", "()V"⟩ "LinearizabilityChecker",
  .fieldLinkNest "LinearizabilityChecker$Parser" 48 "LinearizabilityChecker$TextBuffer" "length" "I" "LinearizabilityChecker",
  .fieldLinkNest "LinearizabilityChecker" 232 "LinearizabilityChecker$TextBuffer" "length" "I" "LinearizabilityChecker",
  .fieldLinkNest "LinearizabilityChecker$Parser" 109 "LinearizabilityChecker$TextBuffer" "characters" "[C" "LinearizabilityChecker",
  .fieldLinkNest "LinearizabilityChecker" 245 "LinearizabilityChecker$Parser" "commands" "I" "LinearizabilityChecker",
  .fieldLinkNest "LinearizabilityChecker" 273 "LinearizabilityChecker$Parser" "forms" "[I" "LinearizabilityChecker",
  .fieldLinkNest "LinearizabilityChecker" 266 "LinearizabilityChecker$Parser" "threads" "[I" "LinearizabilityChecker",
  .fieldLinkNest "LinearizabilityChecker" 283 "LinearizabilityChecker$Parser" "objects" "[I" "LinearizabilityChecker",
  .fieldLinkNest "LinearizabilityChecker" 282 "LinearizabilityChecker$Parser" "kinds" "[I" "LinearizabilityChecker",
  .fieldLinkNest "LinearizabilityChecker" 267 "LinearizabilityChecker$Parser" "firstNumbers" "[I" "LinearizabilityChecker",
  .fieldLinkNest "LinearizabilityChecker" 270 "LinearizabilityChecker$Parser" "secondNumbers" "[I" "LinearizabilityChecker",
  .fieldLinkNest "LinearizabilityChecker" 242 "LinearizabilityChecker$Parser" "position" "I" "LinearizabilityChecker",
  .methodLinkNest "LinearizabilityChecker$ObjectTable" 22 ⟨"LinearizabilityChecker", "isBetween", "(III)Z"⟩ "LinearizabilityChecker",
  .methodLinkNest "LinearizabilityChecker$History" 65 ⟨"LinearizabilityChecker", "isBetween", "(III)Z"⟩ "LinearizabilityChecker",
  .methodLinkNest "LinearizabilityChecker$Search" 165 ⟨"LinearizabilityChecker", "isBetween", "(III)Z"⟩ "LinearizabilityChecker",
  .methodLinkNest "LinearizabilityChecker$SharedState" 49 ⟨"LinearizabilityChecker", "isBetween", "(III)Z"⟩ "LinearizabilityChecker",
  .methodLinkNest "LinearizabilityChecker$SharedState" 45 ⟨"LinearizabilityChecker", "truth", "(Z)I"⟩ "LinearizabilityChecker",
  .methodLinkNest "LinearizabilityChecker$OrderBuffer" 19 ⟨"LinearizabilityChecker", "isBetween", "(III)Z"⟩ "LinearizabilityChecker",
  .methodLinkNest "LinearizabilityChecker$Parser" 113 ⟨"LinearizabilityChecker", "isBetween", "(III)Z"⟩ "LinearizabilityChecker",
  .methodLinkNest "LinearizabilityChecker$Parser" 79 ⟨"LinearizabilityChecker", "nameOf", "(I)Ljava/lang/String;"⟩ "LinearizabilityChecker",
  .methodLinkNest "LinearizabilityChecker$Parser" 75 ⟨"LinearizabilityChecker", "argumentCount", "(I)I"⟩ "LinearizabilityChecker"]
def ax_nk : Cond → Bool
  | .fieldLinkNest _ _ _ _ _ _ => true
  | .methodLinkNest _ _ _ _ => true
  | _ => false
theorem ax_nest_k : ∀ w ∈ ax_nest, ax_nk w = true := by decide +kernel
theorem ax_Nw_warm {w : Cond} {s U : State} (hW : s.WarmedH U.vm) (hk : ax_nk w = true) (h : va_Nw w s) : va_Nw w U := by
  cases w <;> first | exact va_Nw.warmF hW h | exact va_Nw.warmM hW h | cases hk
theorem ax_Nw_on {w : Cond} (hk : ax_nk w = true) : w.onTables = true := by
  cases w <;> first | rfl | cases hk
/-- what stays of the JDK's own cells: the ten texts, two statics -/
def ax_str (A : Nat → Prop) (ad : Nat → Nat) (U : State) (H : Heap) : Prop :=
  vk_S 10 ax_len ax_byt (fun i => ad (1000 + i)) (fun i => ad (2000 + i)) A U H ∧ (∀ i, i < 10 → vk_R "LinearizabilityChecker" (ax_pool i) (ax_tx.getD i "") (ad (1000 + i)) U) ∧ va_Z "java/lang/String" "COMPACT_STRINGS" "Z" (.int 1) A U H ∧ va_Zq "jdk/internal/util/Preconditions" "SIOOBE_FORMATTER" "Ljava/util/function/BiFunction;" A U H ∧ ∀ w ∈ ax_nest, va_Nw w U
theorem ax_str.kept {A : Nat → Prop} {ad : Nat → Nat} {U : State} {H H1 : Heap} (h : ax_str A ad U H) (hq : ∀ a : Nat, a < H.size → ¬ A a → H1[a]? = H[a]?) : ax_str A ad U H1 := ⟨h.1.kept hq, h.2.1, h.2.2.1.kept hq, h.2.2.2.1.kept hq, h.2.2.2.2⟩
theorem ax_str.narrow {A B : Nat → Prop} {ad : Nat → Nat} {U : State} {H : Heap} (h : ax_str A ad U H) (hAB : ∀ q, B q → A q) : ax_str B ad U H := ⟨h.1.narrow hAB, h.2.1, h.2.2.1.narrow hAB, h.2.2.2.1.narrow hAB, h.2.2.2.2⟩
theorem ax_str.warm {A : Nat → Prop} {ad : Nat → Nat} {s U : State} {H : Heap} (hW : s.WarmedH U.vm) (h : ax_str A ad s H) : ax_str A ad U H := ⟨h.1.moved hW.alike, fun i hi => (h.2.1 i hi).warm hW, h.2.2.1.moved hW.alike, h.2.2.2.1.moved hW.alike, fun w hw => ax_Nw_warm hW (ax_nest_k w hw) (h.2.2.2.2 w hw)⟩
theorem ax_str.same {A : Nat → Prop} {ad : Nat → Nat} {s U : State} {H : Heap} (hv : U.vm = s.vm) (h : ax_str A ad s H) : ax_str A ad U H := by
  have ha : s.vm.Alike U.vm := hv ▸ Vm.Alike.refl s.vm
  exact ⟨h.1.moved ha, fun i hi => (h.2.1 i hi).same hv, h.2.2.1.moved ha, h.2.2.2.1.moved ha, fun w hw => va_Nw.same (ax_Nw_on (ax_nest_k w hw)) hv.symm (h.2.2.2.2 w hw)⟩
def ax_rm (d : Nat) : Room := { frames := d, cells := 0, slots := 0, locals := 40 * d }
def ax_ret (ad : Nat → Nat) (rk : Nat) (r : Int32) : Option Value := if rk = 0 then none else if rk = 1 then some (.int r) else some (.ref (ad (1000 + r.toNatClampNeg)))
def ax_Q (L : ax_L) (D : va_G) (ad : Nat → Nat) (ca : Nat → ClassId) (A : Nat → Prop) (rk : Nat) (r : Int32) (st' : ax_S) : Array Value → State → Outcome → State → Prop := fun _ s0 oc t => oc = .returned (ax_ret ad rk r) ∧ va_P D vwCl (ax_W L ad ca st') t.heap ∧ va_F A s0 t
/-- a method's contract over the abstract states -/
def ax_M (L : ax_L) (y : MethodName) (cc : ByteArray) (nL : Nat) (rt : Option FieldType) (d : Nat) (avs : List ax_V) (st : ax_S) (rk : Nat) (r : Int32) (st' : ax_S) : Prop :=
  ∀ (l : Launch) (D : va_G) (ad : Nat → Nat) (ca : Nat → ClassId) (sz : Nat), Met l y (.code y cc nL rt :: wsL_law) (ax_rm d) (va_Pc (avs.map (ax_val ad)) (fun U => U.heap.size = sz ∧ va_P D vwCl (ax_W L ad ca st) U.heap ∧ ax_K D L ca U ∧ ax_inj L ad ∧ ax_str (ax_A L ad sz) ad U U.heap)) (ax_Q L D ad ca (ax_A L ad sz) rk r st') 0 0 (ax_A L ad sz)
/-- what a method's body knows -/
def ax_ok (C : ax_C) (X : ax_X) (L : ax_L) (cc : ByteArray) (own : String) (nL : Nat) (rt : Option FieldType) (d : Nat) : Prop := match C, X with
  | (p, _, _, R, s, m, args, _, meth, c), (D, ad, ca, A) => p.tables.exec = Jvm.exec ∧ c.code = cc ∧ c.maxLocals = nL ∧ s.vm.findClass own = some m.cls ∧ (∀ w ∈ wsL_law, w.before args s = true) ∧ ax_K D L ca s ∧ ax_inj L ad ∧ A = ax_A L ad s.heap.size ∧ R = ax_rm d ∧ meth.sig.returnType = rt ∧ meth.locks = false ∧ ax_str A ad s s.heap
/-- the locals -/
def ax_lv (ad : Nat → Nat) (lv : List (Option ax_V)) (nL : Nat) (ls : Array Slot) : Prop := ls.size = nL ∧ lv_wf ls ∧ ∀ (k : Nat) (v : ax_V), lv[k]? = some (some v) → ls[k]? = some (.val (ax_val ad v))
/-- the machine, from here on, comes to the end that res says -/
def AW (C : ax_C) (X : ax_X) (L : ax_L) (nL rk : Nat) (res : ax_R) (pc : Nat) (lv : List (Option ax_V)) (stk : List ax_V) (st : ax_S) : Prop := match C, X with
  | (p, l, e, R, s, m, args, below, meth, c), (D, ad, ca, A) => ∀ (r : Int32) (st' : ax_S), res = some (r, st') → ∀ (H : Heap) (locs : List Loc) (ls : Array Slot), va_P D vwCl (ax_W L ad ca st) H → va_S A s.heap H locs → ax_lv ad lv nL ls →
      W p l e R s m args below meth c H locs 0 0 (MQ below (ax_Q L D ad ca A rk r st') args s 0 0 A) (F0 m pc ls (stk.map (ax_val ad)))
end
section
/-! the pure side: what a step of a method does to an abstract state -/
def ax_then (st : ax_S) (g : ax_S → ax_R) : ax_R := g st
def ax_ld (st : ax_S) (o n : Nat) (i : Int32) (g : Int32 → ax_R) : ax_R := if 0 ≤ i ∧ i.toNatClampNeg < n then g (st.2 o i.toNatClampNeg) else none
def ax_sto (st : ax_S) (o n : Nat) (i x : Int32) (g : ax_S → ax_R) : ax_R := if 0 ≤ i ∧ i.toNatClampNeg < n then g (ax_sE st o i.toNatClampNeg x) else none
def ax_bind (f : ax_R) (g : Int32 → ax_S → ax_R) : ax_R := match f with
  | some q => g q.1 q.2
  | none => none
def ax_ldq (qs : List Nat) (i : Int32) (g : Nat → ax_R) : ax_R := if 0 ≤ i ∧ i.toNatClampNeg < qs.length then g (qs.getD i.toNatClampNeg 0) else none
def ax_rz (x : Int32) (st : ax_S) : ax_R := if x = 0 ∨ x = 1 then some (x, st) else none
def ax_putz (st : ax_S) (o k : Nat) (v : Int32) (g : ax_S → ax_R) : ax_R := if v = 0 ∨ v = 1 then g (ax_sI st o k v) else none
def ax_cpy (st : ax_S) (o1 n1 o2 n2 : Nat) (sp dp n : Int32) (g : ax_S → ax_R) : ax_R := if 0 ≤ sp ∧ 0 ≤ dp ∧ 0 ≤ n ∧ sp.toNatClampNeg + n.toNatClampNeg ≤ n1 ∧ dp.toNatClampNeg + n.toNatClampNeg ≤ n2 then g (ax_sA st o2 (va_cpy (st.2 o1) (st.2 o2) sp.toNatClampNeg dp.toNatClampNeg n.toNatClampNeg)) else none
def ax_mx (x y : Int32) : Int32 := if x < y then y else x
def ax_c16 (x : Int32) : Int32 := (x.toUInt32 % 65536).toInt32
theorem ax_vin {i : Int32} {n : Nat} (h : 0 ≤ i ∧ i.toNatClampNeg < n) : vp_in i n := fun q => q.elim (fun q => absurd h.1 (Int32.not_le.mpr q)) (fun q => absurd h.2 (Nat.not_lt.mpr q))
/-! the locals -/
def ax_l (ad : Nat → Nat) (lv : List (Option ax_V)) : List (Nat × Value) := lv.zipIdx.filterMap (fun q => q.1.map (fun v => (q.2, ax_val ad v)))
theorem ax_val_cat (ad : Nat → Nat) (v : ax_V) : (ax_val ad v).category = 1 := by cases v <;> rfl
theorem ax_l_in {ad : Nat → Nat} {lv : List (Option ax_V)} {k : Nat} {v : ax_V} (h : lv[k]? = some (some v)) : (k, ax_val ad v) ∈ ax_l ad lv := List.mem_filterMap.mpr ⟨(some v, k), List.mk_mem_zipIdx_iff_getElem?.mpr h, rfl⟩
theorem ax_lv.has {ad : Nat → Nat} {lv : List (Option ax_V)} {nL : Nat} {ls : Array Slot} (h : ax_lv ad lv nL ls) : lv_has ls nL (ax_l ad lv) := by
  refine ⟨h.1, h.2.1, fun q hq => ?_⟩
  obtain ⟨⟨w, k⟩, h1, h2⟩ := List.mem_filterMap.mp hq
  have h3 := List.mk_mem_zipIdx_iff_getElem?.mp h1
  cases w with
  | none => cases h2
  | some v => cases h2; exact h.2.2 k v h3
theorem ax_lv.stored {ad : Nat → Nat} {lv : List (Option ax_V)} {nL i : Nat} {ls' : Array Slot} {v : ax_V} (h : lv_has ls' nL ((i, ax_val ad v) :: (ax_l ad lv).filter (fun q => !(q.1 == i) && !(q.1 + 1 == i && q.2.category == 2)))) : ax_lv ad (lv.set i (some v)) nL ls' := by
  refine ⟨h.1, h.2.1, fun k w hk => ?_⟩
  rw [List.getElem?_set] at hk
  by_cases hi : i = k
  · rw [if_pos hi] at hk
    subst hi
    split at hk
    · cases hk; exact h.2.2 _ List.mem_cons_self
    · cases hk
  · rw [if_neg hi] at hk
    refine h.2.2 (k, ax_val ad w) (List.mem_cons_of_mem _ (List.mem_filter.mpr ⟨ax_l_in hk, ?_⟩))
    have h1 : (k == i) = false := by simpa using fun e => hi e.symm
    have h2 : ((ax_val ad w).category == 2) = false := by rw [ax_val_cat]; rfl
    simp [h1, h2]
theorem ax_lv.less {ad : Nat → Nat} {lv lv' : List (Option ax_V)} {nL : Nat} {ls : Array Slot} (h : ax_lv ad lv nL ls) (hs : ∀ (k : Nat) (v : ax_V), lv'[k]? = some (some v) → lv[k]? = some (some v)) : ax_lv ad lv' nL ls := ⟨h.1, h.2.1, fun k v hk => h.2.2 k v (hs k v hk)⟩
/-- lv' says nothing that lv doesn't say -/
def ax_le : List (Option ax_V) → List (Option ax_V) → Prop
  | [], _ => True
  | none :: a, _ :: b => ax_le a b
  | some v :: a, w :: b => w = some v ∧ ax_le a b
  | none :: a, [] => ax_le a []
  | some _ :: _, [] => False
theorem ax_le.at : ∀ {a b : List (Option ax_V)}, ax_le a b → ∀ (k : Nat) (v : ax_V), a[k]? = some (some v) → b[k]? = some (some v)
  | [], _, _, k, v, hk => by cases hk
  | none :: a, _ :: b, h, k, v, hk => by
    cases k with
    | zero => cases hk
    | succ k => exact ax_le.at (a := a) (b := b) h k v hk
  | some u :: a, w :: b, h, k, v, hk => by
    cases k with
    | zero => cases hk; exact congrArg some h.1
    | succ k => exact ax_le.at (a := a) (b := b) h.2 k v hk
  | none :: a, [], h, k, v, hk => by
    cases k with
    | zero => cases hk
    | succ k => exact absurd (ax_le.at (a := a) (b := []) h k v hk) (by simp)
  | some _ :: _, [], h, _, _, _ => h.elim
theorem ax_leS {v : ax_V} {a b : List (Option ax_V)} (h : ax_le a b) : ax_le (some v :: a) (some v :: b) := ⟨rfl, h⟩
theorem ax_leN {w : Option ax_V} {a b : List (Option ax_V)} (h : ax_le a b) : ax_le (none :: a) (w :: b) := h
theorem ax_le0 {b : List (Option ax_V)} : ax_le [] b := trivial
/-! the words -/
theorem wsL_good : ∀ w ∈ wsL_law, (w.onTables && w.keeps) = true ∨ ∃ ty, w = .arrayClass ty := by
  have h : wsL_law.all goodWord = true := by decide +kernel
  exact fun w hw => good_of_word (List.all_eq_true.mp h w hw)
def ax_lk (own : String) (idx ci k : Nat) : Prop := ∃ (Cn : String) (T : u_T) (N : Nat), vwCl[ci]? = some (Cn, T, N) ∧ k < N ∧ (Cond.fieldLink own idx Cn (T k).2.1 (T k).2.2.1 ∈ wsL_law ∨ ∃ host, Cond.fieldLinkNest own idx Cn (T k).2.1 (T k).2.2.1 host ∈ ax_nest) ∧ (∀ w ∈ u_ws Cn T N, w ∈ wsL_law) ∧ (T k).1 = Cn
def ax_lp (own : String) (idx ci k : Nat) (ty : FieldType) : Prop := ∃ (Cn : String) (T : u_T) (N : Nat) (ty0 : Nat → FieldType), vwCl[ci]? = some (Cn, T, N) ∧ k < N ∧ (Cond.fieldLink own idx Cn (T k).2.1 (T k).2.2.1 ∈ wsL_law ∨ ∃ host, Cond.fieldLinkNest own idx Cn (T k).2.1 (T k).2.2.1 host ∈ ax_nest) ∧ (∀ w ∈ u_ws Cn T N, w ∈ wsL_law) ∧ (T k).1 = Cn ∧ (∀ k, k < N → parseFieldDescriptor (T k).2.2.1 = some (ty0 k)) ∧ (∀ a, a < N → ∀ b, b < N → a ≠ b → (T a).2.1 ≠ (T b).2.1) ∧ (T k).2.2.2 = false ∧ parseFieldDescriptor (T k).2.2.1 = some ty
def ax_mlk (own : String) (idx : Nat) (y : MethodName) (cy : ByteArray) (nLy : Nat) (rty : Option FieldType) (n : Nat) : Prop := Cond.methodLink own idx y ∈ wsL_law ∧ Cond.initialized y.cls ∈ wsL_law ∧ Cond.code y cy nLy rty ∈ wsL_law ∧ (y.cls ≠ "java/lang/invoke/MethodHandle" ∧ y.cls ≠ "java/lang/invoke/VarHandle" ∧ (parseMethodDescriptor y.desc).map (fun d => d.parameters.length) = some n)
theorem ax_pay {args : Array Value} {s : State} {own : String} {idx : Nat} {y : MethodName} {cy : ByteArray} {nLy : Nat} {rty : Option FieldType} {n d dy : Nat} (hts : ∀ w ∈ wsL_law, w.before args s = true) (h : ax_mlk own idx y cy nLy rty n) (hd : dy + 1 ≤ d) (hn : nLy ≤ 21) : CallB (ax_rm d) s args own idx y cy nLy rty (.code y cy nLy rty :: wsL_law) (ax_rm dy) 0 0 n := by
  obtain ⟨h1, h2, h3, h4⟩ := h
  have hG : GoodIn wsL_law (.code y cy nLy rty :: wsL_law) := fun w hw => by
    have hw' : w ∈ wsL_law := by
      rcases List.mem_cons.mp hw with rfl | h
      · exact h3
      · exact h
    exact ⟨hw', wsL_good w hw'⟩
  exact callB_of n hts hG rfl rfl rfl (hts _ h2) (hts _ h1) h4 ⟨hd, by show 8 + (nLy + 11) + 40 * dy ≤ 40 * d; omega⟩
def ax_mln (own : String) (idx : Nat) (y : MethodName) (cy : ByteArray) (nLy : Nat) (rty : Option FieldType) (n : Nat) : Prop := (∃ host, Cond.methodLinkNest own idx y host ∈ ax_nest) ∧ Cond.initialized y.cls ∈ wsL_law ∧ Cond.code y cy nLy rty ∈ wsL_law ∧ (y.cls ≠ "java/lang/invoke/MethodHandle" ∧ y.cls ≠ "java/lang/invoke/VarHandle" ∧ (parseMethodDescriptor y.desc).map (fun d => d.parameters.length) = some n)
theorem ax_payN {args : Array Value} {s : State} {own : String} {idx : Nat} {y : MethodName} {cy : ByteArray} {nLy : Nat} {rty : Option FieldType} {n d dy : Nat} (hts : ∀ w ∈ wsL_law, w.before args s = true) (hnw : ∀ w ∈ ax_nest, va_Nw w s) (h : ax_mln own idx y cy nLy rty n) (hd : dy + 1 ≤ d) (hn : nLy ≤ 21) : ∃ host, va_CN (ax_rm d) s args own idx y host cy nLy rty (.code y cy nLy rty :: wsL_law) (ax_rm dy) 0 0 n := by
  obtain ⟨⟨host, h1⟩, h2, h3, h4⟩ := h
  have hG : GoodIn wsL_law (.code y cy nLy rty :: wsL_law) := fun w hw => by
    have hw' : w ∈ wsL_law := by
      rcases List.mem_cons.mp hw with rfl | h
      · exact h3
      · exact h
    exact ⟨hw', wsL_good w hw'⟩
  exact ⟨host, va_cnB n hts hG rfl rfl rfl (hnw _ h1) (hts _ h2) h4 ⟨hd, by show 8 + (nLy + 11) + 40 * dy ≤ 40 * d; omega⟩⟩
section AXR
variable {C : ax_C} {X : ax_X} {L : ax_L} {nL rk : Nat} {res : ax_R} {pc : Nat} {lv : List (Option ax_V)} {stk : List ax_V} {st : ax_S} {cc : ByteArray} {own : String} {rt : Option FieldType} {d : Nat}
theorem ax_none {res : ax_R} (h : res = none) : AW C X L nL rk res pc lv stk st := by
  obtain ⟨p, l, e, R, s, m, args, below, meth, c⟩ := C
  obtain ⟨D, ad, ca, A⟩ := X
  intro r st' hres
  rw [h] at hres; cases hres
theorem ax_sub {lv' : List (Option ax_V)} (hs : ax_le lv' lv) (kk : AW C X L nL rk res pc lv' stk st) : AW C X L nL rk res pc lv stk st := by
  obtain ⟨p, l, e, R, s, m, args, below, meth, c⟩ := C
  obtain ⟨D, ad, ca, A⟩ := X
  intro r st' hres H locs ls hP hS hl
  exact kk r st' hres H locs ls hP hS (hl.less (fun k v h => ax_le.at hs k v h))
theorem ax_iconst (hC : ax_ok C X L cc own nL rt d) {n : Int} {v : Int32} (hd : decode cc pc = .ok (.iconst n, 1)) (hv : Int32.ofInt n = v) (kk : AW C X L nL rk res (pc + 1) lv (.inl v :: stk) st) : AW C X L nL rk res pc lv stk st := by
  obtain ⟨p, l, e, R, s, m, args, below, meth, c⟩ := C
  obtain ⟨D, ad, ca, A⟩ := X
  obtain ⟨hx, hb, hml, hown, hts, hK, hi, hA, hR, hr, hlk, hstr⟩ := hC
  intro r st' hres H locs ls hP hS hl
  exact lv_iconst hx hb hd hv (kk r st' hres H locs ls hP hS hl)
theorem ax_bipush (hC : ax_ok C X L cc own nL rt d) {n : Int} {v : Int32} (hd : decode cc pc = .ok (.bipush n, 2)) (hv : (Int8.ofInt n).toInt32 = v) (kk : AW C X L nL rk res (pc + 2) lv (.inl v :: stk) st) : AW C X L nL rk res pc lv stk st := by
  obtain ⟨p, l, e, R, s, m, args, below, meth, c⟩ := C
  obtain ⟨D, ad, ca, A⟩ := X
  obtain ⟨hx, hb, hml, hown, hts, hK, hi, hA, hR, hr, hlk, hstr⟩ := hC
  intro r st' hres H locs ls hP hS hl
  exact lv_bipush hx hb hd hv (kk r st' hres H locs ls hP hS hl)
theorem ax_sipush (hC : ax_ok C X L cc own nL rt d) {n : Int} {v : Int32} (hd : decode cc pc = .ok (.sipush n, 3)) (hv : (Int16.ofInt n).toInt32 = v) (kk : AW C X L nL rk res (pc + 3) lv (.inl v :: stk) st) : AW C X L nL rk res pc lv stk st := by
  obtain ⟨p, l, e, R, s, m, args, below, meth, c⟩ := C
  obtain ⟨D, ad, ca, A⟩ := X
  obtain ⟨hx, hb, hml, hown, hts, hK, hi, hA, hR, hr, hlk, hstr⟩ := hC
  intro r st' hres H locs ls hP hS hl
  exact lv_sipush hx hb hd hv (kk r st' hres H locs ls hP hS hl)
theorem ax_iloadn (hC : ax_ok C X L cc own nL rt d) {k : Fin 4} {i : Nat} {x : Int32} (hd : decode cc pc = .ok (.iload_n k, 1)) (hi : (k : Nat) = i) (hv : lv[i]? = some (some (.inl x))) (kk : AW C X L nL rk res (pc + 1) lv (.inl x :: stk) st) : AW C X L nL rk res pc lv stk st := by
  obtain ⟨p, l, e, R, s, m, args, below, meth, c⟩ := C
  obtain ⟨D, ad, ca, A⟩ := X
  obtain ⟨hx, hb, hml, hown, hts, hK, hij, hA, hR, hr, hlk, hstr⟩ := hC
  intro r st' hres H locs ls hP hS hl
  exact lv_iload_n hx hb hd hi (hl.2.2 i _ hv) (kk r st' hres H locs ls hP hS hl)
theorem ax_iload (hC : ax_ok C X L cc own nL rt d) {i : Nat} {x : Int32} (hd : decode cc pc = .ok (.iload i, 2)) (hv : lv[i]? = some (some (.inl x))) (kk : AW C X L nL rk res (pc + 2) lv (.inl x :: stk) st) : AW C X L nL rk res pc lv stk st := by
  obtain ⟨p, l, e, R, s, m, args, below, meth, c⟩ := C
  obtain ⟨D, ad, ca, A⟩ := X
  obtain ⟨hx, hb, hml, hown, hts, hK, hij, hA, hR, hr, hlk, hstr⟩ := hC
  intro r st' hres H locs ls hP hS hl
  exact lv_iload hx hb hd (hl.2.2 i _ hv) (kk r st' hres H locs ls hP hS hl)
theorem ax_aloadn (hC : ax_ok C X L cc own nL rt d) {k : Fin 4} {i : Nat} {o : Nat} (hd : decode cc pc = .ok (.aload_n k, 1)) (hi : (k : Nat) = i) (hv : lv[i]? = some (some (.inr o))) (kk : AW C X L nL rk res (pc + 1) lv (.inr o :: stk) st) : AW C X L nL rk res pc lv stk st := by
  obtain ⟨p, l, e, R, s, m, args, below, meth, c⟩ := C
  obtain ⟨D, ad, ca, A⟩ := X
  obtain ⟨hx, hb, hml, hown, hts, hK, hij, hA, hR, hr, hlk, hstr⟩ := hC
  intro r st' hres H locs ls hP hS hl
  exact lv_aload_n hx hb hd hi (hl.2.2 i _ hv) (kk r st' hres H locs ls hP hS hl)
theorem ax_aload (hC : ax_ok C X L cc own nL rt d) {i : Nat} {o : Nat} (hd : decode cc pc = .ok (.aload i, 2)) (hv : lv[i]? = some (some (.inr o))) (kk : AW C X L nL rk res (pc + 2) lv (.inr o :: stk) st) : AW C X L nL rk res pc lv stk st := by
  obtain ⟨p, l, e, R, s, m, args, below, meth, c⟩ := C
  obtain ⟨D, ad, ca, A⟩ := X
  obtain ⟨hx, hb, hml, hown, hts, hK, hij, hA, hR, hr, hlk, hstr⟩ := hC
  intro r st' hres H locs ls hP hS hl
  exact lv_aload hx hb hd (hl.2.2 i _ hv) (kk r st' hres H locs ls hP hS hl)
theorem ax_istoren (hC : ax_ok C X L cc own nL rt d) {k : Fin 4} {i : Nat} {x : Int32} {lv' : List (Option ax_V)} (hd : decode cc pc = .ok (.istore_n k, 1)) (hi : (k : Nat) = i) (hn : i < nL) (hv : lv.set i (some (.inl x)) = lv') (kk : AW C X L nL rk res (pc + 1) lv' stk st) : AW C X L nL rk res pc lv (.inl x :: stk) st := by
  subst hv
  obtain ⟨p, l, e, R, s, m, args, below, meth, c⟩ := C
  obtain ⟨D, ad, ca, A⟩ := X
  obtain ⟨hx, hb, hml, hown, hts, hK, hij, hA, hR, hr, hlk, hstr⟩ := hC
  intro r st' hres H locs ls hP hS hl
  exact lv_istore_n hx hb hd hi hl.has hn rfl (fun ls' h => kk r st' hres H locs ls' hP hS (ax_lv.stored (v := .inl x) h))
theorem ax_istore (hC : ax_ok C X L cc own nL rt d) {i : Nat} {x : Int32} {lv' : List (Option ax_V)} (hd : decode cc pc = .ok (.istore i, 2)) (hn : i < nL) (hv : lv.set i (some (.inl x)) = lv') (kk : AW C X L nL rk res (pc + 2) lv' stk st) : AW C X L nL rk res pc lv (.inl x :: stk) st := by
  subst hv
  obtain ⟨p, l, e, R, s, m, args, below, meth, c⟩ := C
  obtain ⟨D, ad, ca, A⟩ := X
  obtain ⟨hx, hb, hml, hown, hts, hK, hij, hA, hR, hr, hlk, hstr⟩ := hC
  intro r st' hres H locs ls hP hS hl
  exact lv_istore hx hb hd hl.has hn rfl (fun ls' h => kk r st' hres H locs ls' hP hS (ax_lv.stored (v := .inl x) h))
theorem ax_astoren (hC : ax_ok C X L cc own nL rt d) {k : Fin 4} {i : Nat} {x : Nat} {lv' : List (Option ax_V)} (hd : decode cc pc = .ok (.astore_n k, 1)) (hi : (k : Nat) = i) (hn : i < nL) (hv : lv.set i (some (.inr x)) = lv') (kk : AW C X L nL rk res (pc + 1) lv' stk st) : AW C X L nL rk res pc lv (.inr x :: stk) st := by
  subst hv
  obtain ⟨p, l, e, R, s, m, args, below, meth, c⟩ := C
  obtain ⟨D, ad, ca, A⟩ := X
  obtain ⟨hx, hb, hml, hown, hts, hK, hij, hA, hR, hr, hlk, hstr⟩ := hC
  intro r st' hres H locs ls hP hS hl
  exact lv_astore_n hx hb hd hi hl.has hn rfl (fun ls' h => kk r st' hres H locs ls' hP hS (ax_lv.stored (v := .inr x) h))
theorem ax_astore (hC : ax_ok C X L cc own nL rt d) {i : Nat} {x : Nat} {lv' : List (Option ax_V)} (hd : decode cc pc = .ok (.astore i, 2)) (hn : i < nL) (hv : lv.set i (some (.inr x)) = lv') (kk : AW C X L nL rk res (pc + 2) lv' stk st) : AW C X L nL rk res pc lv (.inr x :: stk) st := by
  subst hv
  obtain ⟨p, l, e, R, s, m, args, below, meth, c⟩ := C
  obtain ⟨D, ad, ca, A⟩ := X
  obtain ⟨hx, hb, hml, hown, hts, hK, hij, hA, hR, hr, hlk, hstr⟩ := hC
  intro r st' hres H locs ls hP hS hl
  exact lv_astore hx hb hd hl.has hn rfl (fun ls' h => kk r st' hres H locs ls' hP hS (ax_lv.stored (v := .inr x) h))
theorem ax_iinc (hC : ax_ok C X L cc own nL rt d) {i : Nat} {n : Int} {x v : Int32} {lv' : List (Option ax_V)} (hd : decode cc pc = .ok (.iinc i n, 3)) (hg : lv[i]? = some (some (.inl x))) (hx2 : x + Int32.ofInt n = v) (hn : i < nL) (hv : lv.set i (some (.inl v)) = lv') (kk : AW C X L nL rk res (pc + 3) lv' stk st) : AW C X L nL rk res pc lv stk st := by
  subst hv
  obtain ⟨p, l, e, R, s, m, args, below, meth, c⟩ := C
  obtain ⟨D, ad, ca, A⟩ := X
  obtain ⟨hx, hb, hml, hown, hts, hK, hij, hA, hR, hr, hlk, hstr⟩ := hC
  intro r st' hres H locs ls hP hS hl
  obtain ⟨k, hk⟩ := List.getElem?_of_mem (ax_l_in (ad := ad) hg)
  exact lv_iinc hx hb hd hl.has hk hx2 hn rfl (fun ls' h => kk r st' hres H locs ls' hP hS (ax_lv.stored (v := .inl v) h))
theorem ax_iadd (hC : ax_ok C X L cc own nL rt d) {x y : Int32} (hd : decode cc pc = .ok (.iadd, 1)) (kk : AW C X L nL rk res (pc + 1) lv (.inl (x + y) :: stk) st) : AW C X L nL rk res pc lv (.inl y :: .inl x :: stk) st := by
  obtain ⟨p, l, e, R, s, m, args, below, meth, c⟩ := C
  obtain ⟨D, ad, ca, A⟩ := X
  obtain ⟨hx, hb, hml, hown, hts, hK, hij, hA, hR, hr, hlk, hstr⟩ := hC
  intro r st' hres H locs ls hP hS hl
  exact lv_iadd hx hb hd (kk r st' hres H locs ls hP hS hl)
theorem ax_isub (hC : ax_ok C X L cc own nL rt d) {x y : Int32} (hd : decode cc pc = .ok (.isub, 1)) (kk : AW C X L nL rk res (pc + 1) lv (.inl (x - y) :: stk) st) : AW C X L nL rk res pc lv (.inl y :: .inl x :: stk) st := by
  obtain ⟨p, l, e, R, s, m, args, below, meth, c⟩ := C
  obtain ⟨D, ad, ca, A⟩ := X
  obtain ⟨hx, hb, hml, hown, hts, hK, hij, hA, hR, hr, hlk, hstr⟩ := hC
  intro r st' hres H locs ls hP hS hl
  exact lv_isub hx hb hd (kk r st' hres H locs ls hP hS hl)
theorem ax_imul (hC : ax_ok C X L cc own nL rt d) {x y : Int32} (hd : decode cc pc = .ok (.imul, 1)) (kk : AW C X L nL rk res (pc + 1) lv (.inl (x * y) :: stk) st) : AW C X L nL rk res pc lv (.inl y :: .inl x :: stk) st := by
  obtain ⟨p, l, e, R, s, m, args, below, meth, c⟩ := C
  obtain ⟨D, ad, ca, A⟩ := X
  obtain ⟨hx, hb, hml, hown, hts, hK, hij, hA, hR, hr, hlk, hstr⟩ := hC
  intro r st' hres H locs ls hP hS hl
  exact lv_imul hx hb hd (kk r st' hres H locs ls hP hS hl)
theorem ax_iand (hC : ax_ok C X L cc own nL rt d) {x y : Int32} (hd : decode cc pc = .ok (.iand, 1)) (kk : AW C X L nL rk res (pc + 1) lv (.inl (x &&& y) :: stk) st) : AW C X L nL rk res pc lv (.inl y :: .inl x :: stk) st := by
  obtain ⟨p, l, e, R, s, m, args, below, meth, c⟩ := C
  obtain ⟨D, ad, ca, A⟩ := X
  obtain ⟨hx, hb, hml, hown, hts, hK, hij, hA, hR, hr, hlk, hstr⟩ := hC
  intro r st' hres H locs ls hP hS hl
  exact lv_iand hx hb hd (kk r st' hres H locs ls hP hS hl)
theorem ax_ior (hC : ax_ok C X L cc own nL rt d) {x y : Int32} (hd : decode cc pc = .ok (.ior, 1)) (kk : AW C X L nL rk res (pc + 1) lv (.inl (x ||| y) :: stk) st) : AW C X L nL rk res pc lv (.inl y :: .inl x :: stk) st := by
  obtain ⟨p, l, e, R, s, m, args, below, meth, c⟩ := C
  obtain ⟨D, ad, ca, A⟩ := X
  obtain ⟨hx, hb, hml, hown, hts, hK, hij, hA, hR, hr, hlk, hstr⟩ := hC
  intro r st' hres H locs ls hP hS hl
  exact lv_ior hx hb hd (kk r st' hres H locs ls hP hS hl)
theorem ax_ixor (hC : ax_ok C X L cc own nL rt d) {x y : Int32} (hd : decode cc pc = .ok (.ixor, 1)) (kk : AW C X L nL rk res (pc + 1) lv (.inl (x ^^^ y) :: stk) st) : AW C X L nL rk res pc lv (.inl y :: .inl x :: stk) st := by
  obtain ⟨p, l, e, R, s, m, args, below, meth, c⟩ := C
  obtain ⟨D, ad, ca, A⟩ := X
  obtain ⟨hx, hb, hml, hown, hts, hK, hij, hA, hR, hr, hlk, hstr⟩ := hC
  intro r st' hres H locs ls hP hS hl
  exact lv_ixor hx hb hd (kk r st' hres H locs ls hP hS hl)
theorem ax_ishl (hC : ax_ok C X L cc own nL rt d) {x y : Int32} (hd : decode cc pc = .ok (.ishl, 1)) (kk : AW C X L nL rk res (pc + 1) lv (.inl (x <<< (y &&& 31)) :: stk) st) : AW C X L nL rk res pc lv (.inl y :: .inl x :: stk) st := by
  obtain ⟨p, l, e, R, s, m, args, below, meth, c⟩ := C
  obtain ⟨D, ad, ca, A⟩ := X
  obtain ⟨hx, hb, hml, hown, hts, hK, hij, hA, hR, hr, hlk, hstr⟩ := hC
  intro r st' hres H locs ls hP hS hl
  exact lv_ishl hx hb hd (kk r st' hres H locs ls hP hS hl)
theorem ax_ishr (hC : ax_ok C X L cc own nL rt d) {x y : Int32} (hd : decode cc pc = .ok (.ishr, 1)) (kk : AW C X L nL rk res (pc + 1) lv (.inl (x >>> (y &&& 31)) :: stk) st) : AW C X L nL rk res pc lv (.inl y :: .inl x :: stk) st := by
  obtain ⟨p, l, e, R, s, m, args, below, meth, c⟩ := C
  obtain ⟨D, ad, ca, A⟩ := X
  obtain ⟨hx, hb, hml, hown, hts, hK, hij, hA, hR, hr, hlk, hstr⟩ := hC
  intro r st' hres H locs ls hP hS hl
  exact lv_ishr hx hb hd (kk r st' hres H locs ls hP hS hl)
theorem ax_ineg (hC : ax_ok C X L cc own nL rt d) {x : Int32} (hd : decode cc pc = .ok (.ineg, 1)) (kk : AW C X L nL rk res (pc + 1) lv (.inl (-x) :: stk) st) : AW C X L nL rk res pc lv (.inl x :: stk) st := by
  obtain ⟨p, l, e, R, s, m, args, below, meth, c⟩ := C
  obtain ⟨D, ad, ca, A⟩ := X
  obtain ⟨hx, hb, hml, hown, hts, hK, hij, hA, hR, hr, hlk, hstr⟩ := hC
  intro r st' hres H locs ls hP hS hl
  exact lv_ineg hx hb hd (kk r st' hres H locs ls hP hS hl)
theorem ax_i2c (hC : ax_ok C X L cc own nL rt d) {x : Int32} (hd : decode cc pc = .ok (.i2c, 1)) (kk : AW C X L nL rk res (pc + 1) lv (.inl (ax_c16 x) :: stk) st) : AW C X L nL rk res pc lv (.inl x :: stk) st := by
  obtain ⟨p, l, e, R, s, m, args, below, meth, c⟩ := C
  obtain ⟨D, ad, ca, A⟩ := X
  obtain ⟨hx, hb, hml, hown, hts, hK, hij, hA, hR, hr, hlk, hstr⟩ := hC
  intro r st' hres H locs ls hP hS hl
  exact lv_i2c hx hb hd rfl (kk r st' hres H locs ls hP hS hl)
theorem ax_dup (hC : ax_ok C X L cc own nL rt d) {v : ax_V} (hd : decode cc pc = .ok (.dup, 1)) (kk : AW C X L nL rk res (pc + 1) lv (v :: v :: stk) st) : AW C X L nL rk res pc lv (v :: stk) st := by
  obtain ⟨p, l, e, R, s, m, args, below, meth, c⟩ := C
  obtain ⟨D, ad, ca, A⟩ := X
  obtain ⟨hx, hb, hml, hown, hts, hK, hij, hA, hR, hr, hlk, hstr⟩ := hC
  intro r st' hres H locs ls hP hS hl
  exact lv_dup hx hb hd (ax_val_cat ad v) (kk r st' hres H locs ls hP hS hl)
theorem ax_dup2 (hC : ax_ok C X L cc own nL rt d) {v w : ax_V} (hd : decode cc pc = .ok (.dup2, 1)) (kk : AW C X L nL rk res (pc + 1) lv (v :: w :: v :: w :: stk) st) : AW C X L nL rk res pc lv (v :: w :: stk) st := by
  obtain ⟨p, l, e, R, s, m, args, below, meth, c⟩ := C
  obtain ⟨D, ad, ca, A⟩ := X
  obtain ⟨hx, hb, hml, hown, hts, hK, hij, hA, hR, hr, hlk, hstr⟩ := hC
  intro r st' hres H locs ls hP hS hl
  exact lv_dup2_11 hx hb hd (ax_val_cat ad v) (ax_val_cat ad w) (kk r st' hres H locs ls hP hS hl)
theorem ax_pop (hC : ax_ok C X L cc own nL rt d) {v : ax_V} (hd : decode cc pc = .ok (.pop, 1)) (kk : AW C X L nL rk res (pc + 1) lv stk st) : AW C X L nL rk res pc lv (v :: stk) st := by
  obtain ⟨p, l, e, R, s, m, args, below, meth, c⟩ := C
  obtain ⟨D, ad, ca, A⟩ := X
  obtain ⟨hx, hb, hml, hown, hts, hK, hij, hA, hR, hr, hlk, hstr⟩ := hC
  intro r st' hres H locs ls hP hS hl
  exact lv_pop hx hb hd (ax_val_cat ad v) (kk r st' hres H locs ls hP hS hl)
theorem ax_goto (hC : ax_ok C X L cc own nL rt d) {off : Int} {tgt : Nat} (hd : decode cc pc = .ok (.goto off, 3)) (ht : (pc : Int) + off = (tgt : Int)) (kk : AW C X L nL rk res tgt lv stk st) : AW C X L nL rk res pc lv stk st := by
  obtain ⟨p, l, e, R, s, m, args, below, meth, c⟩ := C
  obtain ⟨D, ad, ca, A⟩ := X
  obtain ⟨hx, hb, hml, hown, hts, hK, hij, hA, hR, hr, hlk, hstr⟩ := hC
  intro r st' hres H locs ls hP hS hl
  exact lv_goto hx hb hd ht (kk r st' hres H locs ls hP hS hl)
theorem ax_if_eq (hC : ax_ok C X L cc own nL rt d) {x : Int32} {off : Int} {tgt : Nat} {r1 r2 : ax_R} (hd : decode cc pc = .ok (.ifCond .eq off, 3)) (ht : (pc : Int) + off = (tgt : Int)) (kt : x = 0 → AW C X L nL rk r1 tgt lv stk st) (kf : ¬ x = 0 → AW C X L nL rk r2 (pc + 3) lv stk st) : AW C X L nL rk (if x = 0 then r1 else r2) pc lv (.inl x :: stk) st := by
  obtain ⟨p, l, e, R, s, m, args, below, meth, c⟩ := C
  obtain ⟨D, ad, ca, A⟩ := X
  obtain ⟨hx, hb, hml, hown, hts, hK, hij, hA, hR, hr, hlk, hstr⟩ := hC
  intro r st' hres H locs ls hP hS hl
  by_cases h : x = 0
  · rw [if_pos h] at hres
    exact lv_if_eq hx hb hd ht (fun _ => kt h r st' hres H locs ls hP hS hl) (fun q => absurd h q)
  · rw [if_neg h] at hres
    exact lv_if_eq hx hb hd ht (fun q => absurd q h) (fun _ => kf h r st' hres H locs ls hP hS hl)
theorem ax_if_ne (hC : ax_ok C X L cc own nL rt d) {x : Int32} {off : Int} {tgt : Nat} {r1 r2 : ax_R} (hd : decode cc pc = .ok (.ifCond .ne off, 3)) (ht : (pc : Int) + off = (tgt : Int)) (kt : x = 0 → AW C X L nL rk r1 (pc + 3) lv stk st) (kf : ¬ x = 0 → AW C X L nL rk r2 tgt lv stk st) : AW C X L nL rk (if x = 0 then r1 else r2) pc lv (.inl x :: stk) st := by
  obtain ⟨p, l, e, R, s, m, args, below, meth, c⟩ := C
  obtain ⟨D, ad, ca, A⟩ := X
  obtain ⟨hx, hb, hml, hown, hts, hK, hij, hA, hR, hr, hlk, hstr⟩ := hC
  intro r st' hres H locs ls hP hS hl
  by_cases h : x = 0
  · rw [if_pos h] at hres
    exact lv_if_ne hx hb hd ht (fun q => absurd h q) (fun _ => kt h r st' hres H locs ls hP hS hl)
  · rw [if_neg h] at hres
    exact lv_if_ne hx hb hd ht (fun q => kf h r st' hres H locs ls hP hS hl) (fun q => absurd q h)
theorem ax_if_lt (hC : ax_ok C X L cc own nL rt d) {x : Int32} {off : Int} {tgt : Nat} {r1 r2 : ax_R} (hd : decode cc pc = .ok (.ifCond .lt off, 3)) (ht : (pc : Int) + off = (tgt : Int)) (kt : x < 0 → AW C X L nL rk r1 tgt lv stk st) (kf : ¬ x < 0 → AW C X L nL rk r2 (pc + 3) lv stk st) : AW C X L nL rk (if x < 0 then r1 else r2) pc lv (.inl x :: stk) st := by
  obtain ⟨p, l, e, R, s, m, args, below, meth, c⟩ := C
  obtain ⟨D, ad, ca, A⟩ := X
  obtain ⟨hx, hb, hml, hown, hts, hK, hij, hA, hR, hr, hlk, hstr⟩ := hC
  intro r st' hres H locs ls hP hS hl
  by_cases h : x < 0
  · rw [if_pos h] at hres
    exact lv_if_lt hx hb hd ht (fun _ => kt h r st' hres H locs ls hP hS hl) (fun q => absurd h q)
  · rw [if_neg h] at hres
    exact lv_if_lt hx hb hd ht (fun q => absurd q h) (fun _ => kf h r st' hres H locs ls hP hS hl)
theorem ax_if_ge (hC : ax_ok C X L cc own nL rt d) {x : Int32} {off : Int} {tgt : Nat} {r1 r2 : ax_R} (hd : decode cc pc = .ok (.ifCond .ge off, 3)) (ht : (pc : Int) + off = (tgt : Int)) (kt : 0 ≤ x → AW C X L nL rk r1 tgt lv stk st) (kf : ¬ 0 ≤ x → AW C X L nL rk r2 (pc + 3) lv stk st) : AW C X L nL rk (if 0 ≤ x then r1 else r2) pc lv (.inl x :: stk) st := by
  obtain ⟨p, l, e, R, s, m, args, below, meth, c⟩ := C
  obtain ⟨D, ad, ca, A⟩ := X
  obtain ⟨hx, hb, hml, hown, hts, hK, hij, hA, hR, hr, hlk, hstr⟩ := hC
  intro r st' hres H locs ls hP hS hl
  by_cases h : 0 ≤ x
  · rw [if_pos h] at hres
    exact lv_if_ge hx hb hd ht (fun _ => kt h r st' hres H locs ls hP hS hl) (fun q => absurd h q)
  · rw [if_neg h] at hres
    exact lv_if_ge hx hb hd ht (fun q => absurd q h) (fun _ => kf h r st' hres H locs ls hP hS hl)
theorem ax_if_gt (hC : ax_ok C X L cc own nL rt d) {x : Int32} {off : Int} {tgt : Nat} {r1 r2 : ax_R} (hd : decode cc pc = .ok (.ifCond .gt off, 3)) (ht : (pc : Int) + off = (tgt : Int)) (kt : 0 < x → AW C X L nL rk r1 tgt lv stk st) (kf : ¬ 0 < x → AW C X L nL rk r2 (pc + 3) lv stk st) : AW C X L nL rk (if 0 < x then r1 else r2) pc lv (.inl x :: stk) st := by
  obtain ⟨p, l, e, R, s, m, args, below, meth, c⟩ := C
  obtain ⟨D, ad, ca, A⟩ := X
  obtain ⟨hx, hb, hml, hown, hts, hK, hij, hA, hR, hr, hlk, hstr⟩ := hC
  intro r st' hres H locs ls hP hS hl
  by_cases h : 0 < x
  · rw [if_pos h] at hres
    exact lv_if_gt hx hb hd ht (fun _ => kt h r st' hres H locs ls hP hS hl) (fun q => absurd h q)
  · rw [if_neg h] at hres
    exact lv_if_gt hx hb hd ht (fun q => absurd q h) (fun _ => kf h r st' hres H locs ls hP hS hl)
theorem ax_if_le (hC : ax_ok C X L cc own nL rt d) {x : Int32} {off : Int} {tgt : Nat} {r1 r2 : ax_R} (hd : decode cc pc = .ok (.ifCond .le off, 3)) (ht : (pc : Int) + off = (tgt : Int)) (kt : x ≤ 0 → AW C X L nL rk r1 tgt lv stk st) (kf : ¬ x ≤ 0 → AW C X L nL rk r2 (pc + 3) lv stk st) : AW C X L nL rk (if x ≤ 0 then r1 else r2) pc lv (.inl x :: stk) st := by
  obtain ⟨p, l, e, R, s, m, args, below, meth, c⟩ := C
  obtain ⟨D, ad, ca, A⟩ := X
  obtain ⟨hx, hb, hml, hown, hts, hK, hij, hA, hR, hr, hlk, hstr⟩ := hC
  intro r st' hres H locs ls hP hS hl
  by_cases h : x ≤ 0
  · rw [if_pos h] at hres
    exact lv_if_le hx hb hd ht (fun _ => kt h r st' hres H locs ls hP hS hl) (fun q => absurd h q)
  · rw [if_neg h] at hres
    exact lv_if_le hx hb hd ht (fun q => absurd q h) (fun _ => kf h r st' hres H locs ls hP hS hl)
theorem ax_icmp_eq (hC : ax_ok C X L cc own nL rt d) {x y : Int32} {off : Int} {tgt : Nat} {r1 r2 : ax_R} (hd : decode cc pc = .ok (.if_icmp .eq off, 3)) (ht : (pc : Int) + off = (tgt : Int)) (kt : x = y → AW C X L nL rk r1 tgt lv stk st) (kf : ¬ x = y → AW C X L nL rk r2 (pc + 3) lv stk st) : AW C X L nL rk (if x = y then r1 else r2) pc lv (.inl y :: .inl x :: stk) st := by
  obtain ⟨p, l, e, R, s, m, args, below, meth, c⟩ := C
  obtain ⟨D, ad, ca, A⟩ := X
  obtain ⟨hx, hb, hml, hown, hts, hK, hij, hA, hR, hr, hlk, hstr⟩ := hC
  intro r st' hres H locs ls hP hS hl
  by_cases h : x = y
  · rw [if_pos h] at hres
    exact lv_icmp_eq hx hb hd ht (fun _ => kt h r st' hres H locs ls hP hS hl) (fun q => absurd h q)
  · rw [if_neg h] at hres
    exact lv_icmp_eq hx hb hd ht (fun q => absurd q h) (fun _ => kf h r st' hres H locs ls hP hS hl)
theorem ax_icmp_ne (hC : ax_ok C X L cc own nL rt d) {x y : Int32} {off : Int} {tgt : Nat} {r1 r2 : ax_R} (hd : decode cc pc = .ok (.if_icmp .ne off, 3)) (ht : (pc : Int) + off = (tgt : Int)) (kt : x = y → AW C X L nL rk r1 (pc + 3) lv stk st) (kf : ¬ x = y → AW C X L nL rk r2 tgt lv stk st) : AW C X L nL rk (if x = y then r1 else r2) pc lv (.inl y :: .inl x :: stk) st := by
  obtain ⟨p, l, e, R, s, m, args, below, meth, c⟩ := C
  obtain ⟨D, ad, ca, A⟩ := X
  obtain ⟨hx, hb, hml, hown, hts, hK, hij, hA, hR, hr, hlk, hstr⟩ := hC
  intro r st' hres H locs ls hP hS hl
  by_cases h : x = y
  · rw [if_pos h] at hres
    exact lv_icmp_ne hx hb hd ht (fun q => absurd h q) (fun _ => kt h r st' hres H locs ls hP hS hl)
  · rw [if_neg h] at hres
    exact lv_icmp_ne hx hb hd ht (fun q => kf h r st' hres H locs ls hP hS hl) (fun q => absurd q h)
theorem ax_icmp_lt (hC : ax_ok C X L cc own nL rt d) {x y : Int32} {off : Int} {tgt : Nat} {r1 r2 : ax_R} (hd : decode cc pc = .ok (.if_icmp .lt off, 3)) (ht : (pc : Int) + off = (tgt : Int)) (kt : x < y → AW C X L nL rk r1 tgt lv stk st) (kf : ¬ x < y → AW C X L nL rk r2 (pc + 3) lv stk st) : AW C X L nL rk (if x < y then r1 else r2) pc lv (.inl y :: .inl x :: stk) st := by
  obtain ⟨p, l, e, R, s, m, args, below, meth, c⟩ := C
  obtain ⟨D, ad, ca, A⟩ := X
  obtain ⟨hx, hb, hml, hown, hts, hK, hij, hA, hR, hr, hlk, hstr⟩ := hC
  intro r st' hres H locs ls hP hS hl
  by_cases h : x < y
  · rw [if_pos h] at hres
    exact lv_icmp_lt hx hb hd ht (fun _ => kt h r st' hres H locs ls hP hS hl) (fun q => absurd h q)
  · rw [if_neg h] at hres
    exact lv_icmp_lt hx hb hd ht (fun q => absurd q h) (fun _ => kf h r st' hres H locs ls hP hS hl)
theorem ax_icmp_ge (hC : ax_ok C X L cc own nL rt d) {x y : Int32} {off : Int} {tgt : Nat} {r1 r2 : ax_R} (hd : decode cc pc = .ok (.if_icmp .ge off, 3)) (ht : (pc : Int) + off = (tgt : Int)) (kt : y ≤ x → AW C X L nL rk r1 tgt lv stk st) (kf : ¬ y ≤ x → AW C X L nL rk r2 (pc + 3) lv stk st) : AW C X L nL rk (if y ≤ x then r1 else r2) pc lv (.inl y :: .inl x :: stk) st := by
  obtain ⟨p, l, e, R, s, m, args, below, meth, c⟩ := C
  obtain ⟨D, ad, ca, A⟩ := X
  obtain ⟨hx, hb, hml, hown, hts, hK, hij, hA, hR, hr, hlk, hstr⟩ := hC
  intro r st' hres H locs ls hP hS hl
  by_cases h : y ≤ x
  · rw [if_pos h] at hres
    exact lv_icmp_ge hx hb hd ht (fun _ => kt h r st' hres H locs ls hP hS hl) (fun q => absurd h q)
  · rw [if_neg h] at hres
    exact lv_icmp_ge hx hb hd ht (fun q => absurd q h) (fun _ => kf h r st' hres H locs ls hP hS hl)
theorem ax_icmp_gt (hC : ax_ok C X L cc own nL rt d) {x y : Int32} {off : Int} {tgt : Nat} {r1 r2 : ax_R} (hd : decode cc pc = .ok (.if_icmp .gt off, 3)) (ht : (pc : Int) + off = (tgt : Int)) (kt : y < x → AW C X L nL rk r1 tgt lv stk st) (kf : ¬ y < x → AW C X L nL rk r2 (pc + 3) lv stk st) : AW C X L nL rk (if y < x then r1 else r2) pc lv (.inl y :: .inl x :: stk) st := by
  obtain ⟨p, l, e, R, s, m, args, below, meth, c⟩ := C
  obtain ⟨D, ad, ca, A⟩ := X
  obtain ⟨hx, hb, hml, hown, hts, hK, hij, hA, hR, hr, hlk, hstr⟩ := hC
  intro r st' hres H locs ls hP hS hl
  by_cases h : y < x
  · rw [if_pos h] at hres
    exact lv_icmp_gt hx hb hd ht (fun _ => kt h r st' hres H locs ls hP hS hl) (fun q => absurd h q)
  · rw [if_neg h] at hres
    exact lv_icmp_gt hx hb hd ht (fun q => absurd q h) (fun _ => kf h r st' hres H locs ls hP hS hl)
theorem ax_icmp_le (hC : ax_ok C X L cc own nL rt d) {x y : Int32} {off : Int} {tgt : Nat} {r1 r2 : ax_R} (hd : decode cc pc = .ok (.if_icmp .le off, 3)) (ht : (pc : Int) + off = (tgt : Int)) (kt : x ≤ y → AW C X L nL rk r1 tgt lv stk st) (kf : ¬ x ≤ y → AW C X L nL rk r2 (pc + 3) lv stk st) : AW C X L nL rk (if x ≤ y then r1 else r2) pc lv (.inl y :: .inl x :: stk) st := by
  obtain ⟨p, l, e, R, s, m, args, below, meth, c⟩ := C
  obtain ⟨D, ad, ca, A⟩ := X
  obtain ⟨hx, hb, hml, hown, hts, hK, hij, hA, hR, hr, hlk, hstr⟩ := hC
  intro r st' hres H locs ls hP hS hl
  by_cases h : x ≤ y
  · rw [if_pos h] at hres
    exact lv_icmp_le hx hb hd ht (fun _ => kt h r st' hres H locs ls hP hS hl) (fun q => absurd h q)
  · rw [if_neg h] at hres
    exact lv_icmp_le hx hb hd ht (fun q => absurd q h) (fun _ => kf h r st' hres H locs ls hP hS hl)
theorem ax_lkI (hC : ax_ok C X L cc own nL rt d) {idx o ci k : Nat} {fs : List (Option Nat)} (hk : ax_lk own idx ci k) (he : L[o]? = some (.inr (.inr (ci, fs)))) (hf : fs[k]? = some none) (hd : decode cc pc = .ok (.getfield idx, 3)) (kk : AW C X L nL rk res (pc + 3) lv (.inl (st.1 o k) :: stk) st) : AW C X L nL rk res pc lv (.inr o :: stk) st := by
  obtain ⟨p, l, e, R, s, m, args, below, meth, c⟩ := C
  obtain ⟨D, ad, ca, A⟩ := X
  obtain ⟨hx, hb, hml, hown, hts, hK, hij, hA, hR, hr, hlk, hstr⟩ := hC
  obtain ⟨Cn, T, N, h1, h2, h3, h4, h5⟩ := hk
  intro r st' hres H locs ls hP hS hl
  have hv9 : (fs.mapIdx (ax_fld ad st o))[k]? = some (.int (st.1 o k)) := by rw [List.getElem?_mapIdx, hf]; rfl
  rcases h3 with h3 | ⟨host, h3⟩
  · exact va_get (D := D) (ci := ci) (v := .int (st.1 o k)) (C := Cn) (T := T) (N := N) hx hb hts h4 hown hK.1 hP o (ax_W_of he) h1 k h2 (hts _ h3) (fun _ h9 => by rw [h5] at h9; exact h9) hv9 hd (kk r st' hres H locs ls hP hS hl)
  · exact va_getN (D := D) (ci := ci) (v := .int (st.1 o k)) (C := Cn) (T := T) (N := N) hx hb hts h4 hown hK.1 hP o (ax_W_of he) h1 k h2 ((hstr.2.2.2.2 _ h3).use rfl) (fun _ h9 => by rw [h5] at h9; exact h9) hv9 hd (kk r st' hres H locs ls hP hS hl)
theorem ax_lkR (hC : ax_ok C X L cc own nL rt d) {idx o ci k q : Nat} {fs : List (Option Nat)} (hk : ax_lk own idx ci k) (he : L[o]? = some (.inr (.inr (ci, fs)))) (hf : fs[k]? = some (some q)) (hd : decode cc pc = .ok (.getfield idx, 3)) (kk : AW C X L nL rk res (pc + 3) lv (.inr q :: stk) st) : AW C X L nL rk res pc lv (.inr o :: stk) st := by
  obtain ⟨p, l, e, R, s, m, args, below, meth, c⟩ := C
  obtain ⟨D, ad, ca, A⟩ := X
  obtain ⟨hx, hb, hml, hown, hts, hK, hij, hA, hR, hr, hlk, hstr⟩ := hC
  obtain ⟨Cn, T, N, h1, h2, h3, h4, h5⟩ := hk
  intro r st' hres H locs ls hP hS hl
  have hv9 : (fs.mapIdx (ax_fld ad st o))[k]? = some (.ref (ad q)) := by rw [List.getElem?_mapIdx, hf]; rfl
  rcases h3 with h3 | ⟨host, h3⟩
  · exact va_get (D := D) (ci := ci) (v := .ref (ad q)) (C := Cn) (T := T) (N := N) hx hb hts h4 hown hK.1 hP o (ax_W_of he) h1 k h2 (hts _ h3) (fun _ h9 => by rw [h5] at h9; exact h9) hv9 hd (kk r st' hres H locs ls hP hS hl)
  · exact va_getN (D := D) (ci := ci) (v := .ref (ad q)) (C := Cn) (T := T) (N := N) hx hb hts h4 hown hK.1 hP o (ax_W_of he) h1 k h2 ((hstr.2.2.2.2 _ h3).use rfl) (fun _ h9 => by rw [h5] at h9; exact h9) hv9 hd (kk r st' hres H locs ls hP hS hl)
theorem ax_AD {p : Program} {l : Launch} {e : Env} {R : Room} {s : State} {m : MethodId} {args : Array Value} {below : List Frame} {meth : Method} {c : Code} {D : va_G} {ad : Nat → Nat} {ca : Nat → ClassId} {A : Nat → Prop} (hC : ax_ok (p, l, e, R, s, m, args, below, meth, c) (D, ad, ca, A) L cc own nL rt d) (st : ax_S) : va_D A (ax_W L ad ca st) := by
  obtain ⟨hx, hb, hml, hown, hts, hK, hij, hA, hR, hr, hlk, hstr⟩ := hC
  exact ax_W_D st hij (fun o ho => by rw [hA]; exact Or.inl ⟨o, ho, rfl⟩)
theorem ax_put (hC : ax_ok C X L cc own nL rt d) {idx o ci k : Nat} {fs : List (Option Nat)} {v : Int32} {ty : FieldType} {res1 : ax_R} (hk : ax_lp own idx ci k ty) (he : L[o]? = some (.inr (.inr (ci, fs)))) (hf : fs[k]? = some none) (hn : narrow ty (.int v) = .int v) (hfit : fits ty (.int v) = true) (hd : decode cc pc = .ok (.putfield idx, 3)) (kk : AW C X L nL rk res1 (pc + 3) lv stk (ax_sI st o k v)) : AW C X L nL rk res1 pc lv (.inl v :: .inr o :: stk) st := by
  obtain ⟨p, l, e, R, s, m, args, below, meth, c⟩ := C
  obtain ⟨D, ad, ca, A⟩ := X
  have hD := ax_AD hC st
  obtain ⟨hx, hb, hml, hown, hts, hK, hij, hA, hR, hr, hlk, hstr⟩ := hC
  obtain ⟨Cn, T, N, ty0, h1, h2, h3, h4, h5, h6, h7, h8, h9⟩ := hk
  intro r st' hres H locs ls hP hS hl
  have hkl : k < (fs.mapIdx (ax_fld ad st o)).length := by
    rw [List.length_mapIdx]; exact (List.getElem?_eq_some_iff.mp hf).1
  rcases h3 with h3 | ⟨host, h3⟩
  · refine va_put (D := D) (ci := ci) (v := .int v) (ty := ty) (C := Cn) (T := T) (N := N) hx hb hts h4 ty0 h6 h7 hown hK.1 hP hD hS o (ax_W_of he) h1 k h2 (hts _ h3) (fun _ g9 => by rw [h5] at g9; exact g9) h8 h9 hn hfit hkl hd (fun H1 locs1 hP1 hD1 hS1 => ?_)
    rw [ax_setI he hf] at hP1
    exact kk r st' hres H1 locs1 ls hP1 hS1 hl
  · refine va_putN (D := D) (ci := ci) (v := .int v) (ty := ty) (C := Cn) (T := T) (N := N) hx hb hts h4 ty0 h6 h7 hown hK.1 hP hD hS o (ax_W_of he) h1 k h2 ((hstr.2.2.2.2 _ h3).use rfl) (fun _ g9 => by rw [h5] at g9; exact g9) h8 h9 hn hfit hkl hd (fun H1 locs1 hP1 hD1 hS1 => ?_)
    rw [ax_setI he hf] at hP1
    exact kk r st' hres H1 locs1 ls hP1 hS1 hl
theorem ax_putI (hC : ax_ok C X L cc own nL rt d) {idx o ci k : Nat} {fs : List (Option Nat)} {v : Int32} {g : ax_S → ax_R} (hk : ax_lp own idx ci k .int) (he : L[o]? = some (.inr (.inr (ci, fs)))) (hf : fs[k]? = some none) (hd : decode cc pc = .ok (.putfield idx, 3)) (kk : ∀ st1, AW C X L nL rk (g st1) (pc + 3) lv stk st1) : AW C X L nL rk (ax_then (ax_sI st o k v) g) pc lv (.inl v :: .inr o :: stk) st :=
  ax_put hC hk he hf rfl rfl hd (kk _)
theorem ax_bool {v : Int32} (h : v = 0 ∨ v = 1) : narrow .boolean (.int v) = .int v ∧ fits .boolean (.int v) = true := by
  rcases h with rfl | rfl <;> exact ⟨by decide +kernel, by decide +kernel⟩
theorem ax_putZ (hC : ax_ok C X L cc own nL rt d) {idx o ci k : Nat} {fs : List (Option Nat)} {v : Int32} {g : ax_S → ax_R} (hk : ax_lp own idx ci k .boolean) (he : L[o]? = some (.inr (.inr (ci, fs)))) (hf : fs[k]? = some none) (hd : decode cc pc = .ok (.putfield idx, 3)) (kk : ∀ st1, AW C X L nL rk (g st1) (pc + 3) lv stk st1) : AW C X L nL rk (ax_putz st o k v g) pc lv (.inl v :: .inr o :: stk) st := by
  by_cases h : v = 0 ∨ v = 1
  · rw [ax_putz, if_pos h]
    exact ax_put hC hk he hf (ax_bool h).1 (ax_bool h).2 hd (kk _)
  · rw [ax_putz, if_neg h]; exact ax_none rfl
theorem ax_iald (hC : ax_ok C X L cc own nL rt d) {o n : Nat} {i : Int32} {g : Int32 → ax_R} (he : L[o]? = some (.inl (.int, n))) (hd : decode cc pc = .ok (.iaload, 1)) (kk : ∀ v, AW C X L nL rk (g v) (pc + 1) lv (.inl v :: stk) st) : AW C X L nL rk (ax_ld st o n i g) pc lv (.inl i :: .inr o :: stk) st := by
  by_cases h : 0 ≤ i ∧ i.toNatClampNeg < n
  · rw [ax_ld, if_pos h]
    obtain ⟨p, l, e, R, s, m, args, below, meth, c⟩ := C
    obtain ⟨D, ad, ca, A⟩ := X
    obtain ⟨hx, hb, hml, hown, hts, hK, hij, hA, hR, hr, hlk, hstr⟩ := hC
    intro r st' hres H locs ls hP hS hl
    exact va_iald hx hb (hK.one he) hP o 0 (ax_W_of he) rfl (ax_vin h) hd (kk _ r st' hres H locs ls hP hS hl)
  · rw [ax_ld, if_neg h]; exact ax_none rfl
theorem ax_zald (hC : ax_ok C X L cc own nL rt d) {o n : Nat} {i : Int32} {g : Int32 → ax_R} (he : L[o]? = some (.inl (.boolean, n))) (hd : decode cc pc = .ok (.baload, 1)) (kk : ∀ v, AW C X L nL rk (g v) (pc + 1) lv (.inl v :: stk) st) : AW C X L nL rk (ax_ld st o n i g) pc lv (.inl i :: .inr o :: stk) st := by
  by_cases h : 0 ≤ i ∧ i.toNatClampNeg < n
  · rw [ax_ld, if_pos h]
    obtain ⟨p, l, e, R, s, m, args, below, meth, c⟩ := C
    obtain ⟨D, ad, ca, A⟩ := X
    obtain ⟨hx, hb, hml, hown, hts, hK, hij, hA, hR, hr, hlk, hstr⟩ := hC
    intro r st' hres H locs ls hP hS hl
    exact va_zald hx hb (hK.one he) hP o 0 (ax_W_of he) rfl (ax_vin h) hd (kk _ r st' hres H locs ls hP hS hl)
  · rw [ax_ld, if_neg h]; exact ax_none rfl
theorem ax_cald (hC : ax_ok C X L cc own nL rt d) {o n : Nat} {i : Int32} {g : Int32 → ax_R} (he : L[o]? = some (.inl (.char, n))) (hd : decode cc pc = .ok (.caload, 1)) (kk : ∀ v, AW C X L nL rk (g v) (pc + 1) lv (.inl v :: stk) st) : AW C X L nL rk (ax_ld st o n i g) pc lv (.inl i :: .inr o :: stk) st := by
  by_cases h : 0 ≤ i ∧ i.toNatClampNeg < n
  · rw [ax_ld, if_pos h]
    obtain ⟨p, l, e, R, s, m, args, below, meth, c⟩ := C
    obtain ⟨D, ad, ca, A⟩ := X
    obtain ⟨hx, hb, hml, hown, hts, hK, hij, hA, hR, hr, hlk, hstr⟩ := hC
    intro r st' hres H locs ls hP hS hl
    exact va_cald hx hb (hK.one he) hP o 0 (ax_W_of he) rfl (ax_vin h) hd (kk _ r st' hres H locs ls hP hS hl)
  · rw [ax_ld, if_neg h]; exact ax_none rfl
theorem ax_iast (hC : ax_ok C X L cc own nL rt d) {o n : Nat} {i x : Int32} {g : ax_S → ax_R} (he : L[o]? = some (.inl (.int, n))) (hd : decode cc pc = .ok (.iastore, 1)) (kk : ∀ st1, AW C X L nL rk (g st1) (pc + 1) lv stk st1) : AW C X L nL rk (ax_sto st o n i x g) pc lv (.inl x :: .inl i :: .inr o :: stk) st := by
  by_cases h : 0 ≤ i ∧ i.toNatClampNeg < n
  · rw [ax_sto, if_pos h]
    obtain ⟨p, l, e, R, s, m, args, below, meth, c⟩ := C
    obtain ⟨D, ad, ca, A⟩ := X
    have hD := ax_AD hC st
    obtain ⟨hx, hb, hml, hown, hts, hK, hij, hA, hR, hr, hlk, hstr⟩ := hC
    intro r st' hres H locs ls hP hS hl
    refine va_iast hx hb (hK.one he) hP hD hS o 0 (ax_W_of he) rfl (ax_vin h) hd (fun H1 locs1 hP1 hD1 hS1 => ?_)
    rw [ax_setA he] at hP1
    exact kk _ r st' hres H1 locs1 ls hP1 hS1 hl
  · rw [ax_sto, if_neg h]; exact ax_none rfl
theorem ax_zast (hC : ax_ok C X L cc own nL rt d) {o n : Nat} {i x : Int32} {g : ax_S → ax_R} (he : L[o]? = some (.inl (.boolean, n))) (hd : decode cc pc = .ok (.bastore, 1)) (kk : ∀ st1, AW C X L nL rk (g st1) (pc + 1) lv stk st1) : AW C X L nL rk (ax_sto st o n i (vp_nar .boolean x) g) pc lv (.inl x :: .inl i :: .inr o :: stk) st := by
  by_cases h : 0 ≤ i ∧ i.toNatClampNeg < n
  · rw [ax_sto, if_pos h]
    obtain ⟨p, l, e, R, s, m, args, below, meth, c⟩ := C
    obtain ⟨D, ad, ca, A⟩ := X
    have hD := ax_AD hC st
    obtain ⟨hx, hb, hml, hown, hts, hK, hij, hA, hR, hr, hlk, hstr⟩ := hC
    intro r st' hres H locs ls hP hS hl
    refine va_zast hx hb (hK.one he) hP hD hS o 0 (ax_W_of he) rfl (ax_vin h) hd (fun H1 locs1 hP1 hD1 hS1 => ?_)
    rw [ax_setA he] at hP1
    exact kk _ r st' hres H1 locs1 ls hP1 hS1 hl
  · rw [ax_sto, if_neg h]; exact ax_none rfl
theorem ax_cast (hC : ax_ok C X L cc own nL rt d) {o n : Nat} {i x : Int32} {g : ax_S → ax_R} (he : L[o]? = some (.inl (.char, n))) (hd : decode cc pc = .ok (.castore, 1)) (kk : ∀ st1, AW C X L nL rk (g st1) (pc + 1) lv stk st1) : AW C X L nL rk (ax_sto st o n i (vp_nar .char x) g) pc lv (.inl x :: .inl i :: .inr o :: stk) st := by
  by_cases h : 0 ≤ i ∧ i.toNatClampNeg < n
  · rw [ax_sto, if_pos h]
    obtain ⟨p, l, e, R, s, m, args, below, meth, c⟩ := C
    obtain ⟨D, ad, ca, A⟩ := X
    have hD := ax_AD hC st
    obtain ⟨hx, hb, hml, hown, hts, hK, hij, hA, hR, hr, hlk, hstr⟩ := hC
    intro r st' hres H locs ls hP hS hl
    refine va_cast hx hb (hK.one he) hP hD hS o 0 (ax_W_of he) rfl (ax_vin h) hd (fun H1 locs1 hP1 hD1 hS1 => ?_)
    rw [ax_setA he] at hP1
    exact kk _ r st' hres H1 locs1 ls hP1 hS1 hl
  · rw [ax_sto, if_neg h]; exact ax_none rfl
theorem ax_aald (hC : ax_ok C X L cc own nL rt d) {o : Nat} {Cn : String} {qs : List Nat} {i : Int32} {g : Nat → ax_R} (he : L[o]? = some (.inr (.inl (Cn, qs)))) (hd : decode cc pc = .ok (.aaload, 1)) (kk : ∀ q, q ∈ qs → AW C X L nL rk (g q) (pc + 1) lv (.inr q :: stk) st) : AW C X L nL rk (ax_ldq qs i g) pc lv (.inl i :: .inr o :: stk) st := by
  by_cases h : 0 ≤ i ∧ i.toNatClampNeg < qs.length
  · rw [ax_ldq, if_pos h]
    obtain ⟨p, l, e, R, s, m, args, below, meth, c⟩ := C
    obtain ⟨D, ad, ca, A⟩ := X
    obtain ⟨hx, hb, hml, hown, hts, hK, hij, hA, hR, hr, hlk, hstr⟩ := hC
    intro r st' hres H locs ls hP hS hl
    have hg : qs[i.toNatClampNeg]? = some (qs.getD i.toNatClampNeg 0) := by
      rw [List.getD_eq_getElem?_getD, List.getElem?_eq_getElem h.2]; rfl
    refine va_aldq hx hb (hK.ref he) hP o 0 (ax_W_of he) rfl (ax_vin h) hd ?_
    rw [hg]
    exact kk _ (List.mem_of_getElem? hg) r st' hres H locs ls hP hS hl
  · rw [ax_ldq, if_neg h]; exact ax_none rfl
theorem ax_alen (hC : ax_ok C X L cc own nL rt d) {o n : Nat} {ty : FieldType} {v : Int32} (he : L[o]? = some (.inl (ty, n))) (hv : Int32.ofNat n = v) (hd : decode cc pc = .ok (.arraylength, 1)) (kk : AW C X L nL rk res (pc + 1) lv (.inl v :: stk) st) : AW C X L nL rk res pc lv (.inr o :: stk) st := by
  obtain ⟨p, l, e, R, s, m, args, below, meth, c⟩ := C
  obtain ⟨D, ad, ca, A⟩ := X
  obtain ⟨hx, hb, hml, hown, hts, hK, hij, hA, hR, hr, hlk, hstr⟩ := hC
  intro r st' hres H locs ls hP hS hl
  exact va_alen hx hb (hK.one he) hP o 0 (ax_W_of he) (ty := ty) rfl hv hd (kk r st' hres H locs ls hP hS hl)
theorem ax_cats (ad : Nat → Nat) (stk : List ax_V) : ((stk.map (ax_val ad)).map fun v => v.category).sum = stk.length := by
  induction stk with
  | nil => rfl
  | cons v l ih =>
    show (ax_val ad v).category + ((l.map (ax_val ad)).map fun v => v.category).sum = _
    rw [ax_val_cat, ih, List.length_cons]; omega
theorem ax_mmax (hC : ax_ok C X L cc own nL rt d) {idx : Nat} {x y : Int32} (hk : Cond.methodLink own idx Lib.Math.max.name ∈ wsL_law ∧ Cond.static Lib.Math.max.name ∈ wsL_law ∧ Cond.initialized "java/lang/Math" ∈ wsL_law ∧ Cond.code Lib.Math.max.name Lib.Math.max.code 2 (some .int) ∈ wsL_law) (hdd : 1 ≤ d) (hst : stk.length ≤ 8) (hd : decode cc pc = .ok (.invokestatic idx, 3)) (kk : AW C X L nL rk res (pc + 3) lv (.inl (ax_mx x y) :: stk) st) : AW C X L nL rk res pc lv (.inl y :: .inl x :: stk) st := by
  obtain ⟨p, l, e, R, s, m, args, below, meth, c⟩ := C
  obtain ⟨D, ad, ca, A⟩ := X
  obtain ⟨hx, hb, hml, hown, hts, hK, hij, hA, hR, hr, hlk, hstr⟩ := hC
  intro r st' hres H locs ls hP hS hl
  refine va_mmax hx hb (hml.trans hl.1.symm) hown (hts _ hk.1) (hts _ hk.2.1) (hts _ hk.2.2.1) (hts _ hk.2.2.2) (by rw [hR]; exact hdd) ?_ (by rw [hR]; exact Nat.le_refl 0) (by rw [hR]; exact Nat.le_refl 0) hd (kk r st' hres H locs ls hP hS hl)
  rw [ax_cats, hR]
  show stk.length + 13 ≤ 40 * d
  omega
theorem ax_copy (hC : ax_ok C X L cc own nL rt d) {idx o1 n1 o2 n2 : Nat} {sp dp n : Int32} {g : ax_S → ax_R} (hk : Cond.methodLink own idx arraycopyName ∈ wsL_law ∧ Cond.native arraycopyName ∈ wsL_law ∧ Cond.static arraycopyName ∈ wsL_law ∧ Cond.initialized "java/lang/System" ∈ wsL_law) (h1 : L[o1]? = some (.inl (.int, n1))) (h2 : L[o2]? = some (.inl (.int, n2))) (hdd : 2 ≤ d) (hst : stk.length ≤ 8) (hd : decode cc pc = .ok (.invokestatic idx, 3)) (kk : ∀ st1, AW C X L nL rk (g st1) (pc + 3) lv stk st1) : AW C X L nL rk (ax_cpy st o1 n1 o2 n2 sp dp n g) pc lv (.inl n :: .inl dp :: .inr o2 :: .inl sp :: .inr o1 :: stk) st := by
  by_cases h : 0 ≤ sp ∧ 0 ≤ dp ∧ 0 ≤ n ∧ sp.toNatClampNeg + n.toNatClampNeg ≤ n1 ∧ dp.toNatClampNeg + n.toNatClampNeg ≤ n2
  · rw [ax_cpy, if_pos h]
    obtain ⟨p, l, e, R, s, m, args, below, meth, c⟩ := C
    obtain ⟨D, ad, ca, A⟩ := X
    have hD := ax_AD hC st
    obtain ⟨hx, hb, hml, hown, hts, hK, hij, hA, hR, hr, hlk, hstr⟩ := hC
    intro r st' hres H locs ls hP hS hl
    have hK2 : va_K D vwCl [(ca o1, .int), (ca o2, .int)] s := va_K.app (hK.one h1) (hK.one h2)
    refine va_copyi hx hb (hml.trans hl.1.symm) hown (hts _ hk.1) (hts _ hk.2.1) (hts _ hk.2.2.1) (hts _ hk.2.2.2) hK2 hP hD hS o1 o2 0 1 (ty := .int) (ax_W_of h1) (ax_W_of h2) rfl rfl rfl (Int32.not_lt.mpr h.1) (Int32.not_lt.mpr h.2.1) (Int32.not_lt.mpr h.2.2.1) h.2.2.2.1 h.2.2.2.2 (fun _ _ => rfl) (by rw [hR]; show 1 ≤ d; omega) ?_ hd (fun H1 locs1 hP1 hD1 hS1 => ?_)
    · rw [ax_cats, hR]
      show stk.length + (nativeFrameWords "java/lang/System" "arraycopy" 5 + 11) ≤ 40 * d
      have : nativeFrameWords "java/lang/System" "arraycopy" 5 ≤ 60 := by decide +kernel
      omega
    · rw [ax_setA h2] at hP1
      exact kk _ r st' hres H1 locs1 ls hP1 hS1 hl
  · rw [ax_cpy, if_neg h]; exact ax_none rfl
theorem ax_ldcS (hC : ax_ok C X L cc "LinearizabilityChecker" nL rt d) {idx i : Nat} (hi : i < 10) (hx2 : idx = ax_pool i) (hd : decode cc pc = .ok (.ldc_w idx, 3)) (kk : AW C X L nL rk res (pc + 3) lv (.inr (1000 + i) :: stk) st) : AW C X L nL rk res pc lv stk st := by
  subst hx2
  obtain ⟨p, l, e, R, s, m, args, below, meth, c⟩ := C
  obtain ⟨D, ad, ca, A⟩ := X
  obtain ⟨hx, hb, hml, hown, hts, hK, hij, hA, hR, hr, hlk, hstr⟩ := hC
  intro r st' hres H locs ls hP hS hl T hT XX
  obtain ⟨t, a1, b1⟩ := kk r st' hres H locs ls hP hS hl T hT XX
  have hZ := hstr.2.1 i hi
  exact ⟨t, XX.ldcStringW hx hown hZ.1 hZ.2 (g := F0 m pc ls (stk.map (ax_val ad))) rfl (by rw [hb]; exact hd) t a1, b1⟩
/-! switches: by the place that is gone to -/
theorem ax_tsIn (hC : ax_ok C X L cc own nL rt d) {dflt lo hi : Int} {offs : Array Int} {len : Nat} {x v : Int32} {off : Int} {tgt : Nat} {r1 r2 : ax_R} (hd : decode cc pc = .ok (.tableswitch dflt lo hi offs, len)) (h1 : ¬ v.toInt < lo) (h2 : ¬ hi < v.toInt) (ho : offs[(v.toInt - lo).toNat]? = some off) (ht : (pc : Int) + off = (tgt : Int)) (kt : AW C X L nL rk r1 tgt lv stk st) (kf : ¬ x = v → AW C X L nL rk r2 pc lv (.inl x :: stk) st) : AW C X L nL rk (if x = v then r1 else r2) pc lv (.inl x :: stk) st := by
  by_cases h : x = v
  · rw [if_pos h]
    subst h
    obtain ⟨p, l, e, R, s, m, args, below, meth, c⟩ := C
    obtain ⟨D, ad, ca, A⟩ := X
    obtain ⟨hx, hb, hml, hown, hts, hK, hij, hA, hR, hr, hlk, hstr⟩ := hC
    intro r st' hres H locs ls hP hS hl
    exact lv_tableIn hx hb hd h1 h2 ho ht (kt r st' hres H locs ls hP hS hl)
  · rw [if_neg h]; exact kf h
theorem ax_tsOut (hC : ax_ok C X L cc own nL rt d) {dflt lo hi : Int} {offs : Array Int} {len : Nat} {x : Int32} {tgt : Nat} (hd : decode cc pc = .ok (.tableswitch dflt lo hi offs, len)) (h : x.toInt < lo ∨ hi < x.toInt) (ht : (pc : Int) + dflt = (tgt : Int)) (kk : AW C X L nL rk res tgt lv stk st) : AW C X L nL rk res pc lv (.inl x :: stk) st := by
  obtain ⟨p, l, e, R, s, m, args, below, meth, c⟩ := C
  obtain ⟨D, ad, ca, A⟩ := X
  obtain ⟨hx, hb, hml, hown, hts, hK, hij, hA, hR, hr, hlk, hstr⟩ := hC
  intro r st' hres H locs ls hP hS hl
  exact lv_tableOut hx hb hd h ht (kk r st' hres H locs ls hP hS hl)
theorem ax_ls (hC : ax_ok C X L cc own nL rt d) {dflt : Int} {ps : Array (Int × Int)} {len : Nat} {x : Int32} {off : Int} {tgt : Nat} (hd : decode cc pc = .ok (.lookupswitch dflt ps, len)) (hp : (ps.toList.zip (ps.toList.drop 1)).all (fun (a, next) => a.1 < next.1) = true) (ho : Op.lookupswitch.offset ps.toList dflt x.toInt = off) (ht : (pc : Int) + off = (tgt : Int)) (kk : AW C X L nL rk res tgt lv stk st) : AW C X L nL rk res pc lv (.inl x :: stk) st := by
  obtain ⟨p, l, e, R, s, m, args, below, meth, c⟩ := C
  obtain ⟨D, ad, ca, A⟩ := X
  obtain ⟨hx, hb, hml, hown, hts, hK, hij, hA, hR, hr, hlk, hstr⟩ := hC
  intro r st' hres H locs ls hP hS hl
  exact lv_lookup hx hb hd hp ho ht (kk r st' hres H locs ls hP hS hl)
theorem ax_lsIn (hC : ax_ok C X L cc own nL rt d) {dflt : Int} {ps : Array (Int × Int)} {len : Nat} {x v : Int32} {off : Int} {tgt : Nat} {r1 r2 : ax_R} (hd : decode cc pc = .ok (.lookupswitch dflt ps, len)) (hp : (ps.toList.zip (ps.toList.drop 1)).all (fun (a, next) => a.1 < next.1) = true) (ho : Op.lookupswitch.offset ps.toList dflt v.toInt = off) (ht : (pc : Int) + off = (tgt : Int)) (kt : AW C X L nL rk r1 tgt lv stk st) (kf : ¬ x = v → AW C X L nL rk r2 pc lv (.inl x :: stk) st) : AW C X L nL rk (if x = v then r1 else r2) pc lv (.inl x :: stk) st := by
  by_cases h : x = v
  · rw [if_pos h]; subst h; exact ax_ls hC hd hp ho ht kt
  · rw [if_neg h]; exact kf h
/-! ends -/
theorem ax_iret (hC : ax_ok C X L cc own nL (some .int) d) {x : Int32} (hd : decode cc pc = .ok (.ireturn, 1)) : AW C X L nL 1 (some (x, st)) pc lv [.inl x] st := by
  obtain ⟨p, l, e, R, s, m, args, below, meth, c⟩ := C
  obtain ⟨D, ad, ca, A⟩ := X
  obtain ⟨hx, hb, hml, hown, hts, hK, hij, hA, hR, hr, hlk, hstr⟩ := hC
  intro r st' hres H locs ls hP hS hl
  cases hres
  exact W.iret (v := x) hx hb hr (fun t ht hW => ⟨rfl, by rw [ht]; exact hP, hS.F ht⟩) hS.2.2 hd hlk
theorem ax_zret (hC : ax_ok C X L cc own nL (some .boolean) d) {x : Int32} (hd : decode cc pc = .ok (.ireturn, 1)) : AW C X L nL 1 (ax_rz x st) pc lv [.inl x] st := by
  by_cases h : x = 0 ∨ x = 1
  · rw [ax_rz, if_pos h]
    obtain ⟨p, l, e, R, s, m, args, below, meth, c⟩ := C
    obtain ⟨D, ad, ca, A⟩ := X
    obtain ⟨hx, hb, hml, hown, hts, hK, hij, hA, hR, hr, hlk, hstr⟩ := hC
    intro r st' hres H locs ls hP hS hl
    cases hres
    exact W.zret (v := x) hx hb hr (ax_bool h).1 (fun t ht hW => ⟨rfl, by rw [ht]; exact hP, hS.F ht⟩) hS.2.2 hd hlk
  · rw [ax_rz, if_neg h]; exact ax_none rfl
theorem ax_vret (hC : ax_ok C X L cc own nL none d) (hd : decode cc pc = .ok (.return_, 1)) : AW C X L nL 0 (some (0, st)) pc lv [] st := by
  obtain ⟨p, l, e, R, s, m, args, below, meth, c⟩ := C
  obtain ⟨D, ad, ca, A⟩ := X
  obtain ⟨hx, hb, hml, hown, hts, hK, hij, hA, hR, hr, hlk, hstr⟩ := hC
  intro r st' hres H locs ls hP hS hl
  cases hres
  exact W.vret hx hb hr (fun t ht hW => ⟨rfl, by rw [ht]; exact hP, hS.F ht⟩) hS.2.2 hd hlk
theorem ax_sret (hC : ax_ok C X L cc own nL (some (.object "java/lang/String")) d) {i : Int32} {q : Nat} (hq : q = 1000 + i.toNatClampNeg) (hd : decode cc pc = .ok (.areturn, 1)) : AW C X L nL 2 (some (i, st)) pc lv [.inr q] st := by
  subst hq
  obtain ⟨p, l, e, R, s, m, args, below, meth, c⟩ := C
  obtain ⟨D, ad, ca, A⟩ := X
  obtain ⟨hx, hb, hml, hown, hts, hK, hij, hA, hR, hr, hlk, hstr⟩ := hC
  intro r st' hres H locs ls hP hS hl
  cases hres
  exact W.aret (v := .ref (ad (1000 + i.toNatClampNeg))) hx hb hr (Or.inl ⟨_, rfl⟩) (Or.inr ⟨_, rfl⟩) (fun t ht hW => ⟨rfl, by rw [ht]; exact hP, hS.F ht⟩) hS.2.2 hd hlk
/-! calls -/
theorem ax_blind {ad : Nat → Nat} {ca : Nat → ClassId} {D : va_G} {avs : List ax_V} {sz : Nat} {A : Nat → Prop} : FrameBlind (va_Pc (avs.map (ax_val ad)) (fun U => U.heap.size = sz ∧ va_P D vwCl (ax_W L ad ca st) U.heap ∧ ax_K D L ca U ∧ ax_inj L ad ∧ ax_str A ad U U.heap)) := by
  intro a U g mk q
  obtain ⟨q0, q1, q2, q3, q4, q5⟩ := q
  exact ⟨q0, q1, q2, ax_K.moved (u := U) (U := U.calling g mk a) (Vm.Alike.refl U.vm) q3, q4, ax_str.same (s := U) (U := U.calling g mk a) rfl q5⟩
theorem ax_A_le {L : ax_L} {ad : Nat → Nat} {sz sz' : Nat} (h : sz ≤ sz') : ∀ q, ax_A L ad sz' q → ax_A L ad sz q := fun q hq => hq.elim Or.inl (fun g => Or.inr (Nat.le_trans h g))
theorem ax_callee {p : Program} {l : Launch} {e : Env} {R : Room} {s : State} {m : MethodId} {args : Array Value} {below : List Frame} {meth : Method} {c : Code} {D : va_G} {ad : Nat → Nat} {ca : Nat → ClassId} {A : Nat → Prop} {H : Heap} {locs : List Loc} (hC : ax_ok (p, l, e, R, s, m, args, below, meth, c) (D, ad, ca, A) L cc own nL rt d) (hP : va_P D vwCl (ax_W L ad ca st) H) (hS : va_S A s.heap H locs) (avs : List ax_V) (U : State) (hU : U.heap = H) (hW : s.WarmedH U.vm) :
    va_Pc (avs.map (ax_val ad)) (fun U => U.heap.size = H.size ∧ va_P D vwCl (ax_W L ad ca st) U.heap ∧ ax_K D L ca U ∧ ax_inj L ad ∧ ax_str (ax_A L ad H.size) ad U U.heap) (avs.map (ax_val ad)).toArray U := by
  obtain ⟨hx, hb, hml, hown, hts, hK, hij, hA, hR, hr, hlk, hstr⟩ := hC
  subst hA
  exact ⟨rfl, by rw [hU], by rw [hU]; exact hP, hK.moved hW.alike, hij, by rw [hU]; exact ((hstr.kept hS.2.1).narrow (ax_A_le hS.1)).warm hW⟩
def ax_push (rky : Nat) (r : Int32) : List ax_V := if rky = 0 then [] else if rky = 1 then [.inl r] else [.inr (1000 + r.toNatClampNeg)]
theorem ax_push_ret (ad : Nat → Nat) (rky : Nat) (r : Int32) : (ax_push rky r).map (ax_val ad) = (ax_ret ad rky r).toList := by
  unfold ax_push ax_ret
  split
  · rfl
  · split <;> rfl
theorem ax_after {p : Program} {l : Launch} {e : Env} {R : Room} {s : State} {m : MethodId} {args : Array Value} {below : List Frame} {meth : Method} {c : Code} {D : va_G} {ad : Nat → Nat} {ca : Nat → ClassId} {A : Nat → Prop} {H : Heap} {locs : List Loc} {Q : State → Prop} {ls : Array Slot} {st0 : List Value} {rky : Nat} {r1 : Int32} {st1 : ax_S} {a : Array Value} (hA : A = ax_A L ad s.heap.size) (hS : va_S A s.heap H locs)
    (hr : va_Run p l e R s m args below meth c H locs 0 0 0 0 (F0 m pc ls st0) (stk.map (ax_val ad)) (ax_Q L D ad ca (ax_A L ad H.size) rky r1 st1 a) (ax_A L ad H.size))
    (kk : ∀ (H1 : Heap) (locs1 : List Loc), va_P D vwCl (ax_W L ad ca st1) H1 → va_S A s.heap H1 locs1 → W p l e R s m args below meth c H1 locs1 0 0 Q (F0 m (pc + 3) ls ((ax_push rky r1 ++ stk).map (ax_val ad)))) : W p l e R s m args below meth c H locs 0 0 Q (F0 m pc ls st0) := by
  intro T hT XX
  obtain ⟨v, st₀, t, T', L', h0, X', hL, e1, e2, ⟨hv, hp, hF⟩, hst⟩ := hr T hT XX
  cases hv
  subst hA
  have hk : ∀ q : Nat, q < H.size → ¬ ax_A L ad H.size q → t.heap[q]? = H[q]? := fun q h1 h2 => by
    have h3 := hF.2 q (by rw [h0]; exact h1) h2
    rw [h0] at h3; exact h3
  have hz : H.size ≤ t.heap.size := by
    have h3 := hF.1
    rw [h0] at h3; exact h3
  obtain ⟨t2, a1, b1⟩ := kk T'.heap (locs ++ L') (by rw [e1]; exact hp)
    ⟨Nat.le_trans hS.1 (by rw [e1]; exact hz), fun q h1 h2 => by rw [e1, hk q (Nat.lt_of_lt_of_le h1 hS.1) (fun z => h2 (ax_A_le hS.1 q z))]; exact hS.2.1 q h1 h2, fun q hq => by
      rcases List.mem_append.mp hq with h | h
      · exact hS.2.2 q h
      · exact ax_A_le hS.1 _ (hL q h)⟩ T' rfl X'
  refine ⟨t2, hst t2 ?_, b1⟩
  rw [List.map_append, ax_push_ret] at a1
  exact a1
theorem ax_callS {rky idx nLy n dy : Nat} {y : MethodName} {cy : ByteArray} {rty : Option FieldType} {stk0 : List ax_V} {f : ax_R} {g : Int32 → ax_S → ax_R} (hC : ax_ok C X L cc own nL rt d) (hk : ax_mlk own idx y cy nLy rty n) (hs : Cond.static y ∈ wsL_law) (As : List ax_V) (hst : stk0 = As.reverse ++ stk) (hn : As.length = n) (hd2 : dy + 1 ≤ d) (hnl : nLy ≤ 21) (hl8 : stk.length ≤ 8) (hd : decode cc pc = .ok (.invokestatic idx, 3))
    (hM : ∀ r st1, f = some (r, st1) → ax_M L y cy nLy rty dy As st rky r st1) (kk : ∀ r st1, AW C X L nL rk (g r st1) (pc + 3) lv (ax_push rky r ++ stk) st1) : AW C X L nL rk (ax_bind f g) pc lv stk0 st := by
  subst hst
  cases f with
  | none => exact ax_none rfl
  | some q =>
    obtain ⟨r1, st1⟩ := q
    obtain ⟨p, l, e, R, s, m, args, below, meth, c⟩ := C
    obtain ⟨D, ad, ca, A⟩ := X
    have hC0 := hC
    obtain ⟨hx, hb, hml, hown, hts, hK, hij, hA, hR, hr, hlk, hstr⟩ := hC
    intro r st' hres H locs ls hP hS hl
    subst hR
    refine ax_after (r1 := r1) (st1 := st1) (rky := rky) hA hS (va_runS (As := As.map (ax_val ad)) ⟨hx, hb, hml, hown, hts⟩ (hM r1 st1 rfl l D ad ca H.size) ⟨ax_pay hts hk hd2 hnl, hts _ hs⟩ ⟨ax_blind, fun U hU hW => ax_callee hC0 hP hS As U hU hW⟩ rfl (by rw [List.length_map]; exact hn) hl.1 (by show (As.reverse ++ stk).map (ax_val ad) = _; rw [List.map_append, List.map_reverse]) (lv_room (by rw [ax_cats]; exact hl8)) hd ⟨Nat.le_refl 0, Nat.le_refl 0⟩) (fun H1 locs1 hP1 hS1 => kk r1 st1 r st' hres H1 locs1 ls hP1 hS1 hl)
theorem ax_callV {rky idx nLy n dy o ci : Nat} {fs : List (Option Nat)} {y : MethodName} {cy : ByteArray} {rty : Option FieldType} {stk0 : List ax_V} {f : ax_R} {g : Int32 → ax_S → ax_R} (hC : ax_ok C X L cc own nL rt d) (hk : ax_mlk own idx y cy nLy rty n) (hs : Cond.instanceMethod y ∈ wsL_law ∧ Cond.selects y.cls y y ∈ wsL_law ∧ ∃ (T : u_T) (N : Nat), vwCl[ci]? = some (y.cls, T, N)) (he : L[o]? = some (.inr (.inr (ci, fs)))) (As : List ax_V) (hst : stk0 = As.reverse ++ .inr o :: stk) (hn : As.length = n) (hd2 : dy + 1 ≤ d) (hnl : nLy ≤ 21) (hl8 : stk.length ≤ 8) (hd : decode cc pc = .ok (.invokevirtual idx, 3))
    (hM : ∀ r st1, f = some (r, st1) → ax_M L y cy nLy rty dy (.inr o :: As) st rky r st1) (kk : ∀ r st1, AW C X L nL rk (g r st1) (pc + 3) lv (ax_push rky r ++ stk) st1) : AW C X L nL rk (ax_bind f g) pc lv stk0 st := by
  subst hst
  cases f with
  | none => exact ax_none rfl
  | some q =>
    obtain ⟨r1, st1⟩ := q
    obtain ⟨p, l, e, R, s, m, args, below, meth, c⟩ := C
    obtain ⟨D, ad, ca, A⟩ := X
    have hC0 := hC
    obtain ⟨hx, hb, hml, hown, hts, hK, hij, hA, hR, hr, hlk, hstr⟩ := hC
    obtain ⟨hs1, hs2, T9, N9, hs3⟩ := hs
    intro r st' hres H locs ls hP hS hl
    subst hR
    refine ax_after (r1 := r1) (st1 := st1) (rky := rky) hA hS (va_runV (C := y.cls) (b := ad o) (As := As.map (ax_val ad)) ⟨hx, hb, hml, hown, hts⟩ (hM r1 st1 rfl l D ad ca H.size) ⟨ax_pay hts hk hd2 hnl, hts _ hs1, hts _ hs2⟩ ⟨ax_blind, va_recv (q := (y.cls, T9, N9)) (q0 := o) hK.1 hP hs3 (ax_W_of he), fun U hU hW => ax_callee hC0 hP hS (.inr o :: As) U hU hW⟩ rfl (by rw [List.length_map]; exact hn) hl.1 (by show (As.reverse ++ .inr o :: stk).map (ax_val ad) = _; rw [List.map_append, List.map_reverse]; rfl) (lv_room (by rw [ax_cats]; exact hl8)) hd ⟨Nat.le_refl 0, Nat.le_refl 0⟩) (fun H1 locs1 hP1 hS1 => kk r1 st1 r st' hres H1 locs1 ls hP1 hS1 hl)
theorem ax_callSn {rky idx nLy n dy : Nat} {y : MethodName} {cy : ByteArray} {rty : Option FieldType} {stk0 : List ax_V} {f : ax_R} {g : Int32 → ax_S → ax_R} (hC : ax_ok C X L cc own nL rt d) (hk : ax_mln own idx y cy nLy rty n) (hs : Cond.static y ∈ wsL_law) (As : List ax_V) (hst : stk0 = As.reverse ++ stk) (hn : As.length = n) (hd2 : dy + 1 ≤ d) (hnl : nLy ≤ 21) (hl8 : stk.length ≤ 8) (hd : decode cc pc = .ok (.invokestatic idx, 3))
    (hM : ∀ r st1, f = some (r, st1) → ax_M L y cy nLy rty dy As st rky r st1) (kk : ∀ r st1, AW C X L nL rk (g r st1) (pc + 3) lv (ax_push rky r ++ stk) st1) : AW C X L nL rk (ax_bind f g) pc lv stk0 st := by
  subst hst
  cases f with
  | none => exact ax_none rfl
  | some q =>
    obtain ⟨r1, st1⟩ := q
    obtain ⟨p, l, e, R, s, m, args, below, meth, c⟩ := C
    obtain ⟨D, ad, ca, A⟩ := X
    have hC0 := hC
    obtain ⟨hx, hb, hml, hown, hts, hK, hij, hA, hR, hr, hlk, hstr⟩ := hC
    intro r st' hres H locs ls hP hS hl
    subst hR
    obtain ⟨host, hcn⟩ := ax_payN hts hstr.2.2.2.2 hk hd2 hnl
    refine ax_after (r1 := r1) (st1 := st1) (rky := rky) hA hS (va_runSN (As := As.map (ax_val ad)) ⟨hx, hb, hml, hown, hts⟩ (hM r1 st1 rfl l D ad ca H.size) ⟨hcn, hts _ hs, trivial⟩ ⟨ax_blind, fun U hU hW => ax_callee hC0 hP hS As U hU hW⟩ rfl (by rw [List.length_map]; exact hn) hl.1 (by show (As.reverse ++ stk).map (ax_val ad) = _; rw [List.map_append, List.map_reverse]) (lv_room (by rw [ax_cats]; exact hl8)) hd ⟨Nat.le_refl 0, Nat.le_refl 0⟩) (fun H1 locs1 hP1 hS1 => kk r1 st1 r st' hres H1 locs1 ls hP1 hS1 hl)
theorem ax_callVn {rky idx nLy n dy o ci : Nat} {fs : List (Option Nat)} {y : MethodName} {cy : ByteArray} {rty : Option FieldType} {stk0 : List ax_V} {f : ax_R} {g : Int32 → ax_S → ax_R} (hC : ax_ok C X L cc own nL rt d) (hk : ax_mln own idx y cy nLy rty n) (hs : Cond.instanceMethod y ∈ wsL_law ∧ Cond.selects y.cls y y ∈ wsL_law ∧ ∃ (T : u_T) (N : Nat), vwCl[ci]? = some (y.cls, T, N)) (he : L[o]? = some (.inr (.inr (ci, fs)))) (As : List ax_V) (hst : stk0 = As.reverse ++ .inr o :: stk) (hn : As.length = n) (hd2 : dy + 1 ≤ d) (hnl : nLy ≤ 21) (hl8 : stk.length ≤ 8) (hd : decode cc pc = .ok (.invokevirtual idx, 3))
    (hM : ∀ r st1, f = some (r, st1) → ax_M L y cy nLy rty dy (.inr o :: As) st rky r st1) (kk : ∀ r st1, AW C X L nL rk (g r st1) (pc + 3) lv (ax_push rky r ++ stk) st1) : AW C X L nL rk (ax_bind f g) pc lv stk0 st := by
  subst hst
  cases f with
  | none => exact ax_none rfl
  | some q =>
    obtain ⟨r1, st1⟩ := q
    obtain ⟨p, l, e, R, s, m, args, below, meth, c⟩ := C
    obtain ⟨D, ad, ca, A⟩ := X
    have hC0 := hC
    obtain ⟨hx, hb, hml, hown, hts, hK, hij, hA, hR, hr, hlk, hstr⟩ := hC
    obtain ⟨hs1, hs2, T9, N9, hs3⟩ := hs
    intro r st' hres H locs ls hP hS hl
    subst hR
    obtain ⟨host, hcn⟩ := ax_payN hts hstr.2.2.2.2 hk hd2 hnl
    refine ax_after (r1 := r1) (st1 := st1) (rky := rky) hA hS (va_runVN (C := y.cls) (b := ad o) (As := As.map (ax_val ad)) ⟨hx, hb, hml, hown, hts⟩ (hM r1 st1 rfl l D ad ca H.size) ⟨hcn, hts _ hs1, hts _ hs2⟩ ⟨ax_blind, va_recv (q := (y.cls, T9, N9)) (q0 := o) hK.1 hP hs3 (ax_W_of he), fun U hU hW => ax_callee hC0 hP hS (.inr o :: As) U hU hW⟩ rfl (by rw [List.length_map]; exact hn) hl.1 (by show (As.reverse ++ .inr o :: stk).map (ax_val ad) = _; rw [List.map_append, List.map_reverse]; rfl) (lv_room (by rw [ax_cats]; exact hl8)) hd ⟨Nat.le_refl 0, Nat.le_refl 0⟩) (fun H1 locs1 hP1 hS1 => kk r1 st1 r st' hres H1 locs1 ls hP1 hS1 hl)
theorem ax_callS0 {idx nLy n dy : Nat} {y : MethodName} {cy : ByteArray} {rty : Option FieldType} {stk0 : List ax_V} {f : ax_R} {g : Int32 → ax_S → ax_R} (hC : ax_ok C X L cc own nL rt d) (hk : ax_mlk own idx y cy nLy rty n) (hs : Cond.static y ∈ wsL_law) (As : List ax_V) (hst : stk0 = As.reverse ++ stk) (hn : As.length = n) (hd2 : dy + 1 ≤ d) (hnl : nLy ≤ 21) (hl8 : stk.length ≤ 8) (hd : decode cc pc = .ok (.invokestatic idx, 3))
    (hM : ∀ r st1, f = some (r, st1) → ax_M L y cy nLy rty dy As st 0 r st1) (kk : ∀ r st1, AW C X L nL rk (g r st1) (pc + 3) lv stk st1) : AW C X L nL rk (ax_bind f g) pc lv stk0 st := ax_callS (rky := 0) hC hk hs As hst hn hd2 hnl hl8 hd hM kk
theorem ax_callS1 {idx nLy n dy : Nat} {y : MethodName} {cy : ByteArray} {rty : Option FieldType} {stk0 : List ax_V} {f : ax_R} {g : Int32 → ax_S → ax_R} (hC : ax_ok C X L cc own nL rt d) (hk : ax_mlk own idx y cy nLy rty n) (hs : Cond.static y ∈ wsL_law) (As : List ax_V) (hst : stk0 = As.reverse ++ stk) (hn : As.length = n) (hd2 : dy + 1 ≤ d) (hnl : nLy ≤ 21) (hl8 : stk.length ≤ 8) (hd : decode cc pc = .ok (.invokestatic idx, 3))
    (hM : ∀ r st1, f = some (r, st1) → ax_M L y cy nLy rty dy As st 1 r st1) (kk : ∀ r st1, AW C X L nL rk (g r st1) (pc + 3) lv (.inl r :: stk) st1) : AW C X L nL rk (ax_bind f g) pc lv stk0 st := ax_callS (rky := 1) hC hk hs As hst hn hd2 hnl hl8 hd hM kk
theorem ax_callS2 {idx nLy n dy : Nat} {y : MethodName} {cy : ByteArray} {rty : Option FieldType} {stk0 : List ax_V} {f : ax_R} {g : Int32 → ax_S → ax_R} (hC : ax_ok C X L cc own nL rt d) (hk : ax_mlk own idx y cy nLy rty n) (hs : Cond.static y ∈ wsL_law) (As : List ax_V) (hst : stk0 = As.reverse ++ stk) (hn : As.length = n) (hd2 : dy + 1 ≤ d) (hnl : nLy ≤ 21) (hl8 : stk.length ≤ 8) (hd : decode cc pc = .ok (.invokestatic idx, 3))
    (hM : ∀ r st1, f = some (r, st1) → ax_M L y cy nLy rty dy As st 2 r st1) (kk : ∀ r st1, AW C X L nL rk (g r st1) (pc + 3) lv (.inr (1000 + r.toNatClampNeg) :: stk) st1) : AW C X L nL rk (ax_bind f g) pc lv stk0 st := ax_callS (rky := 2) hC hk hs As hst hn hd2 hnl hl8 hd hM kk
theorem ax_callV0 {idx nLy n dy o ci : Nat} {fs : List (Option Nat)} {y : MethodName} {cy : ByteArray} {rty : Option FieldType} {stk0 : List ax_V} {f : ax_R} {g : Int32 → ax_S → ax_R} (hC : ax_ok C X L cc own nL rt d) (hk : ax_mlk own idx y cy nLy rty n) (hs : Cond.instanceMethod y ∈ wsL_law ∧ Cond.selects y.cls y y ∈ wsL_law ∧ ∃ (T : u_T) (N : Nat), vwCl[ci]? = some (y.cls, T, N)) (he : L[o]? = some (.inr (.inr (ci, fs)))) (As : List ax_V) (hst : stk0 = As.reverse ++ .inr o :: stk) (hn : As.length = n) (hd2 : dy + 1 ≤ d) (hnl : nLy ≤ 21) (hl8 : stk.length ≤ 8) (hd : decode cc pc = .ok (.invokevirtual idx, 3))
    (hM : ∀ r st1, f = some (r, st1) → ax_M L y cy nLy rty dy (.inr o :: As) st 0 r st1) (kk : ∀ r st1, AW C X L nL rk (g r st1) (pc + 3) lv stk st1) : AW C X L nL rk (ax_bind f g) pc lv stk0 st := ax_callV (rky := 0) hC hk hs he As hst hn hd2 hnl hl8 hd hM kk
theorem ax_callV1 {idx nLy n dy o ci : Nat} {fs : List (Option Nat)} {y : MethodName} {cy : ByteArray} {rty : Option FieldType} {stk0 : List ax_V} {f : ax_R} {g : Int32 → ax_S → ax_R} (hC : ax_ok C X L cc own nL rt d) (hk : ax_mlk own idx y cy nLy rty n) (hs : Cond.instanceMethod y ∈ wsL_law ∧ Cond.selects y.cls y y ∈ wsL_law ∧ ∃ (T : u_T) (N : Nat), vwCl[ci]? = some (y.cls, T, N)) (he : L[o]? = some (.inr (.inr (ci, fs)))) (As : List ax_V) (hst : stk0 = As.reverse ++ .inr o :: stk) (hn : As.length = n) (hd2 : dy + 1 ≤ d) (hnl : nLy ≤ 21) (hl8 : stk.length ≤ 8) (hd : decode cc pc = .ok (.invokevirtual idx, 3))
    (hM : ∀ r st1, f = some (r, st1) → ax_M L y cy nLy rty dy (.inr o :: As) st 1 r st1) (kk : ∀ r st1, AW C X L nL rk (g r st1) (pc + 3) lv (.inl r :: stk) st1) : AW C X L nL rk (ax_bind f g) pc lv stk0 st := ax_callV (rky := 1) hC hk hs he As hst hn hd2 hnl hl8 hd hM kk
theorem ax_callV2 {idx nLy n dy o ci : Nat} {fs : List (Option Nat)} {y : MethodName} {cy : ByteArray} {rty : Option FieldType} {stk0 : List ax_V} {f : ax_R} {g : Int32 → ax_S → ax_R} (hC : ax_ok C X L cc own nL rt d) (hk : ax_mlk own idx y cy nLy rty n) (hs : Cond.instanceMethod y ∈ wsL_law ∧ Cond.selects y.cls y y ∈ wsL_law ∧ ∃ (T : u_T) (N : Nat), vwCl[ci]? = some (y.cls, T, N)) (he : L[o]? = some (.inr (.inr (ci, fs)))) (As : List ax_V) (hst : stk0 = As.reverse ++ .inr o :: stk) (hn : As.length = n) (hd2 : dy + 1 ≤ d) (hnl : nLy ≤ 21) (hl8 : stk.length ≤ 8) (hd : decode cc pc = .ok (.invokevirtual idx, 3))
    (hM : ∀ r st1, f = some (r, st1) → ax_M L y cy nLy rty dy (.inr o :: As) st 2 r st1) (kk : ∀ r st1, AW C X L nL rk (g r st1) (pc + 3) lv (.inr (1000 + r.toNatClampNeg) :: stk) st1) : AW C X L nL rk (ax_bind f g) pc lv stk0 st := ax_callV (rky := 2) hC hk hs he As hst hn hd2 hnl hl8 hd hM kk
theorem ax_callS0n {idx nLy n dy : Nat} {y : MethodName} {cy : ByteArray} {rty : Option FieldType} {stk0 : List ax_V} {f : ax_R} {g : Int32 → ax_S → ax_R} (hC : ax_ok C X L cc own nL rt d) (hk : ax_mln own idx y cy nLy rty n) (hs : Cond.static y ∈ wsL_law) (As : List ax_V) (hst : stk0 = As.reverse ++ stk) (hn : As.length = n) (hd2 : dy + 1 ≤ d) (hnl : nLy ≤ 21) (hl8 : stk.length ≤ 8) (hd : decode cc pc = .ok (.invokestatic idx, 3))
    (hM : ∀ r st1, f = some (r, st1) → ax_M L y cy nLy rty dy As st 0 r st1) (kk : ∀ r st1, AW C X L nL rk (g r st1) (pc + 3) lv stk st1) : AW C X L nL rk (ax_bind f g) pc lv stk0 st := ax_callSn (rky := 0) hC hk hs As hst hn hd2 hnl hl8 hd hM kk
theorem ax_callS1n {idx nLy n dy : Nat} {y : MethodName} {cy : ByteArray} {rty : Option FieldType} {stk0 : List ax_V} {f : ax_R} {g : Int32 → ax_S → ax_R} (hC : ax_ok C X L cc own nL rt d) (hk : ax_mln own idx y cy nLy rty n) (hs : Cond.static y ∈ wsL_law) (As : List ax_V) (hst : stk0 = As.reverse ++ stk) (hn : As.length = n) (hd2 : dy + 1 ≤ d) (hnl : nLy ≤ 21) (hl8 : stk.length ≤ 8) (hd : decode cc pc = .ok (.invokestatic idx, 3))
    (hM : ∀ r st1, f = some (r, st1) → ax_M L y cy nLy rty dy As st 1 r st1) (kk : ∀ r st1, AW C X L nL rk (g r st1) (pc + 3) lv (.inl r :: stk) st1) : AW C X L nL rk (ax_bind f g) pc lv stk0 st := ax_callSn (rky := 1) hC hk hs As hst hn hd2 hnl hl8 hd hM kk
theorem ax_callS2n {idx nLy n dy : Nat} {y : MethodName} {cy : ByteArray} {rty : Option FieldType} {stk0 : List ax_V} {f : ax_R} {g : Int32 → ax_S → ax_R} (hC : ax_ok C X L cc own nL rt d) (hk : ax_mln own idx y cy nLy rty n) (hs : Cond.static y ∈ wsL_law) (As : List ax_V) (hst : stk0 = As.reverse ++ stk) (hn : As.length = n) (hd2 : dy + 1 ≤ d) (hnl : nLy ≤ 21) (hl8 : stk.length ≤ 8) (hd : decode cc pc = .ok (.invokestatic idx, 3))
    (hM : ∀ r st1, f = some (r, st1) → ax_M L y cy nLy rty dy As st 2 r st1) (kk : ∀ r st1, AW C X L nL rk (g r st1) (pc + 3) lv (.inr (1000 + r.toNatClampNeg) :: stk) st1) : AW C X L nL rk (ax_bind f g) pc lv stk0 st := ax_callSn (rky := 2) hC hk hs As hst hn hd2 hnl hl8 hd hM kk
theorem ax_callV0n {idx nLy n dy o ci : Nat} {fs : List (Option Nat)} {y : MethodName} {cy : ByteArray} {rty : Option FieldType} {stk0 : List ax_V} {f : ax_R} {g : Int32 → ax_S → ax_R} (hC : ax_ok C X L cc own nL rt d) (hk : ax_mln own idx y cy nLy rty n) (hs : Cond.instanceMethod y ∈ wsL_law ∧ Cond.selects y.cls y y ∈ wsL_law ∧ ∃ (T : u_T) (N : Nat), vwCl[ci]? = some (y.cls, T, N)) (he : L[o]? = some (.inr (.inr (ci, fs)))) (As : List ax_V) (hst : stk0 = As.reverse ++ .inr o :: stk) (hn : As.length = n) (hd2 : dy + 1 ≤ d) (hnl : nLy ≤ 21) (hl8 : stk.length ≤ 8) (hd : decode cc pc = .ok (.invokevirtual idx, 3))
    (hM : ∀ r st1, f = some (r, st1) → ax_M L y cy nLy rty dy (.inr o :: As) st 0 r st1) (kk : ∀ r st1, AW C X L nL rk (g r st1) (pc + 3) lv stk st1) : AW C X L nL rk (ax_bind f g) pc lv stk0 st := ax_callVn (rky := 0) hC hk hs he As hst hn hd2 hnl hl8 hd hM kk
theorem ax_callV1n {idx nLy n dy o ci : Nat} {fs : List (Option Nat)} {y : MethodName} {cy : ByteArray} {rty : Option FieldType} {stk0 : List ax_V} {f : ax_R} {g : Int32 → ax_S → ax_R} (hC : ax_ok C X L cc own nL rt d) (hk : ax_mln own idx y cy nLy rty n) (hs : Cond.instanceMethod y ∈ wsL_law ∧ Cond.selects y.cls y y ∈ wsL_law ∧ ∃ (T : u_T) (N : Nat), vwCl[ci]? = some (y.cls, T, N)) (he : L[o]? = some (.inr (.inr (ci, fs)))) (As : List ax_V) (hst : stk0 = As.reverse ++ .inr o :: stk) (hn : As.length = n) (hd2 : dy + 1 ≤ d) (hnl : nLy ≤ 21) (hl8 : stk.length ≤ 8) (hd : decode cc pc = .ok (.invokevirtual idx, 3))
    (hM : ∀ r st1, f = some (r, st1) → ax_M L y cy nLy rty dy (.inr o :: As) st 1 r st1) (kk : ∀ r st1, AW C X L nL rk (g r st1) (pc + 3) lv (.inl r :: stk) st1) : AW C X L nL rk (ax_bind f g) pc lv stk0 st := ax_callVn (rky := 1) hC hk hs he As hst hn hd2 hnl hl8 hd hM kk
theorem ax_callV2n {idx nLy n dy o ci : Nat} {fs : List (Option Nat)} {y : MethodName} {cy : ByteArray} {rty : Option FieldType} {stk0 : List ax_V} {f : ax_R} {g : Int32 → ax_S → ax_R} (hC : ax_ok C X L cc own nL rt d) (hk : ax_mln own idx y cy nLy rty n) (hs : Cond.instanceMethod y ∈ wsL_law ∧ Cond.selects y.cls y y ∈ wsL_law ∧ ∃ (T : u_T) (N : Nat), vwCl[ci]? = some (y.cls, T, N)) (he : L[o]? = some (.inr (.inr (ci, fs)))) (As : List ax_V) (hst : stk0 = As.reverse ++ .inr o :: stk) (hn : As.length = n) (hd2 : dy + 1 ≤ d) (hnl : nLy ≤ 21) (hl8 : stk.length ≤ 8) (hd : decode cc pc = .ok (.invokevirtual idx, 3))
    (hM : ∀ r st1, f = some (r, st1) → ax_M L y cy nLy rty dy (.inr o :: As) st 2 r st1) (kk : ∀ r st1, AW C X L nL rk (g r st1) (pc + 3) lv (.inr (1000 + r.toNatClampNeg) :: stk) st1) : AW C X L nL rk (ax_bind f g) pc lv stk0 st := ax_callVn (rky := 2) hC hk hs he As hst hn hd2 hnl hl8 hd hM kk
/-! starts -/
theorem ax_sl (ad : Nat → Nat) (avs : List ax_V) : (lg_sl (avs.map (ax_val ad))).length = avs.length := by
  induction avs with
  | nil => rfl
  | cons v l ih =>
    have h : lg_sl ((v :: l).map (ax_val ad)) = Slot.val (ax_val ad v) :: lg_sl (l.map (ax_val ad)) := by
      show (if (ax_val ad v).category = 2 then [Slot.val (ax_val ad v), .second] else [Slot.val (ax_val ad v)]) ++ lg_sl (l.map (ax_val ad)) = _
      rw [if_neg (by rw [ax_val_cat]; decide)]; rfl
    rw [h, List.length_cons, ih, List.length_cons]
theorem ax_args (ad : Nat → Nat) : ∀ (avs : List ax_V) (i k : Nat) (v : ax_V), avs[k]? = some v → (i + k, ax_val ad v) ∈ lv_args i (avs.map (ax_val ad))
  | [], _, _, _, h => by cases h
  | w :: l, i, k, v, h => by
    show _ ∈ (i, ax_val ad w) :: lv_args (if (ax_val ad w).category = 2 then i + 2 else i + 1) (l.map (ax_val ad))
    rw [if_neg (by rw [ax_val_cat]; decide)]
    cases k with
    | zero => cases h; exact List.mem_cons_self
    | succ k =>
      have := ax_args ad l (i + 1) k v h
      rw [Nat.add_assoc, Nat.add_comm 1 k] at this
      exact List.mem_cons_of_mem _ this
theorem ax_entry (ad : Nat → Nat) (avs : List ax_V) {nL : Nat} (hn : avs.length ≤ nL) : ax_lv ad (avs.map some ++ List.replicate (nL - avs.length) none) nL ((lg_sl (avs.map (ax_val ad)) ++ List.replicate (nL - (lg_sl (avs.map (ax_val ad))).length) Slot.unset).toArray) := by
  obtain ⟨h1, h2, h3⟩ := lv_entry (avs.map (ax_val ad)) (n := nL) (by rw [ax_sl]; exact hn)
  refine ⟨h1, h2, fun k v hk => ?_⟩
  have hk2 : avs[k]? = some v := by
    by_cases hkl : k < avs.length
    · rw [List.getElem?_append_left (by simpa using hkl), List.getElem?_map] at hk
      cases h : avs[k]? with
      | none => rw [h] at hk; cases hk
      | some w => rw [h] at hk; cases hk; rfl
    · rw [List.getElem?_append_right (by simpa using hkl), List.getElem?_replicate] at hk
      split at hk <;> cases hk
  have := ax_args ad avs 0 k v hk2
  rw [Nat.zero_add] at this
  exact h3 _ this
theorem ax_start {y : MethodName} {avs : List ax_V} {r : Int32} {st' : ax_S} {lv0 : List (Option ax_V)} (hy : plainName y.cls = true) (hn : avs.length ≤ nL) (hlv : avs.map some ++ List.replicate (nL - avs.length) none = lv0) (body : ∀ (C : ax_C) (X : ax_X), ax_ok C X L cc y.cls nL rt d → AW C X L nL rk (some (r, st')) 0 lv0 [] st) : ax_M L y cc nL rt d avs st rk r st' := by
  intro l D ad ca sz
  refine Met.ofW (cc := cc) (maxL := nL) (ret := rt) hy rfl ?_
  intro p e s m args below meth c s₁ B hml hv
  obtain ⟨rfl, hsz, hP, hK, hi, hstr⟩ := hv
  subst hsz
  have hts0 := atoms_spec (ws := .code y cc nL rt :: wsL_law) B.pre
  have h := body (p, l, e, ax_rm d, s, m, (avs.map (ax_val ad)).toArray, below, meth, c) (D, ad, ca, ax_A L ad s.heap.size) ⟨B.exec, B.bytes, hml, findClass_of_methodNamed B.named, fun w hw => hts0 w (List.mem_cons_of_mem _ hw), hK, hi, rfl, rfl, B.returns, B.notSynchronized, hstr⟩
  rw [lg_entry_eq]
  subst hlv
  exact h r st' rfl s.heap [] _ hP va_S.rf (ax_entry ad avs hn)
end AXR
end
