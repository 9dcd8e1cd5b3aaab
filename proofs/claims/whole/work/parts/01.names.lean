-- ===== PART A: goes FIRST, ahead of the names: the tables' words, and 'selects' of the private methods out of them =====
/-- a private method of a class that the tables say can be made, by its rows of tables_1 -/
def lw_okq (q : MethodName × Nat) : Prop := (q.1.cls ≠ "java/lang/invoke/MethodHandle" ∧ q.1.cls ≠ "java/lang/invoke/VarHandle") ∧ Cond.instantiable q.1.cls q.2 ∈ tables_1 ∧ Cond.privateMethod q.1 ∈ tables_1 ∧ Cond.instanceMethod q.1 ∈ tables_1
theorem lw_p0 : lw_okq (⟨"ScopeRunner$Rules", "childrenAreRight", "()Z"⟩, 2) := ⟨⟨by decide +kernel, by decide +kernel⟩, List.mem_of_getElem? (i := 108) (by decide +kernel), List.mem_of_getElem? (i := 199) (by decide +kernel), List.mem_of_getElem? (i := 200) (by decide +kernel)⟩
theorem lw_p1 : lw_okq (⟨"ScopeRunner$Rules", "handlersAreFlat", "()Z"⟩, 2) := ⟨⟨by decide +kernel, by decide +kernel⟩, List.mem_of_getElem? (i := 108) (by decide +kernel), List.mem_of_getElem? (i := 210) (by decide +kernel), List.mem_of_getElem? (i := 211) (by decide +kernel)⟩
theorem lw_p2 : lw_okq (⟨"ScopeRunner$Rules", "handlerKindsAreInside", "()Z"⟩, 2) := ⟨⟨by decide +kernel, by decide +kernel⟩, List.mem_of_getElem? (i := 108) (by decide +kernel), List.mem_of_getElem? (i := 214) (by decide +kernel), List.mem_of_getElem? (i := 215) (by decide +kernel)⟩
theorem lw_p3 : lw_okq (⟨"ScopeRunner$Rules", "compensatesAreRight", "()Z"⟩, 2) := ⟨⟨by decide +kernel, by decide +kernel⟩, List.mem_of_getElem? (i := 108) (by decide +kernel), List.mem_of_getElem? (i := 218) (by decide +kernel), List.mem_of_getElem? (i := 219) (by decide +kernel)⟩
theorem lw_p4 : lw_okq (⟨"ScopeRunner$Rules", "isInHandlersFlow", "(I)Z"⟩, 2) := ⟨⟨by decide +kernel, by decide +kernel⟩, List.mem_of_getElem? (i := 108) (by decide +kernel), List.mem_of_getElem? (i := 222) (by decide +kernel), List.mem_of_getElem? (i := 223) (by decide +kernel)⟩
theorem lw_p5 : lw_okq (⟨"ScopeRunner$Rules", "mayUndo", "(II)Z"⟩, 2) := ⟨⟨by decide +kernel, by decide +kernel⟩, List.mem_of_getElem? (i := 108) (by decide +kernel), List.mem_of_getElem? (i := 230) (by decide +kernel), List.mem_of_getElem? (i := 231) (by decide +kernel)⟩
theorem lw_p6 : lw_okq (⟨"ScopeRunner$Rules", "linksAreRight", "()Z"⟩, 2) := ⟨⟨by decide +kernel, by decide +kernel⟩, List.mem_of_getElem? (i := 108) (by decide +kernel), List.mem_of_getElem? (i := 235) (by decide +kernel), List.mem_of_getElem? (i := 236) (by decide +kernel)⟩
theorem lw_p7 : lw_okq (⟨"ScopeRunner$Rules", "linkIsRight", "(II)Z"⟩, 2) := ⟨⟨by decide +kernel, by decide +kernel⟩, List.mem_of_getElem? (i := 108) (by decide +kernel), List.mem_of_getElem? (i := 239) (by decide +kernel), List.mem_of_getElem? (i := 240) (by decide +kernel)⟩
theorem lw_p8 : lw_okq (⟨"ScopeRunner$Rules", "nearestAbove", "(II)I"⟩, 2) := ⟨⟨by decide +kernel, by decide +kernel⟩, List.mem_of_getElem? (i := 108) (by decide +kernel), List.mem_of_getElem? (i := 243) (by decide +kernel), List.mem_of_getElem? (i := 244) (by decide +kernel)⟩
theorem lw_p9 : lw_okq (⟨"ScopeRunner$Rules", "mayReach", "(II)Z"⟩, 2) := ⟨⟨by decide +kernel, by decide +kernel⟩, List.mem_of_getElem? (i := 108) (by decide +kernel), List.mem_of_getElem? (i := 250) (by decide +kernel), List.mem_of_getElem? (i := 251) (by decide +kernel)⟩
theorem lw_p10 : lw_okq (⟨"ScopeRunner$Rules", "orderIsRight", "()Z"⟩, 2) := ⟨⟨by decide +kernel, by decide +kernel⟩, List.mem_of_getElem? (i := 108) (by decide +kernel), List.mem_of_getElem? (i := 255) (by decide +kernel), List.mem_of_getElem? (i := 256) (by decide +kernel)⟩
theorem lw_p11 : lw_okq (⟨"ScopeRunner$Rules", "noteTree", "()V"⟩, 2) := ⟨⟨by decide +kernel, by decide +kernel⟩, List.mem_of_getElem? (i := 108) (by decide +kernel), List.mem_of_getElem? (i := 259) (by decide +kernel), List.mem_of_getElem? (i := 260) (by decide +kernel)⟩
theorem lw_p12 : lw_okq (⟨"ScopeRunner$Rules", "noteNextInSequence", "(II)V"⟩, 2) := ⟨⟨by decide +kernel, by decide +kernel⟩, List.mem_of_getElem? (i := 108) (by decide +kernel), List.mem_of_getElem? (i := 272) (by decide +kernel), List.mem_of_getElem? (i := 273) (by decide +kernel)⟩
theorem lw_p13 : lw_okq (⟨"ScopeRunner$Rules", "noteLinks", "()V"⟩, 2) := ⟨⟨by decide +kernel, by decide +kernel⟩, List.mem_of_getElem? (i := 108) (by decide +kernel), List.mem_of_getElem? (i := 276) (by decide +kernel), List.mem_of_getElem? (i := 277) (by decide +kernel)⟩
theorem lw_p14 : lw_okq (⟨"ScopeRunner$Rules", "withoutFirst", "(J)J"⟩, 2) := ⟨⟨by decide +kernel, by decide +kernel⟩, List.mem_of_getElem? (i := 108) (by decide +kernel), List.mem_of_getElem? (i := 280) (by decide +kernel), List.mem_of_getElem? (i := 281) (by decide +kernel)⟩
theorem lw_p15 : lw_okq (⟨"ScopeRunner$Rules", "startIsRight", "()Z"⟩, 2) := ⟨⟨by decide +kernel, by decide +kernel⟩, List.mem_of_getElem? (i := 108) (by decide +kernel), List.mem_of_getElem? (i := 285) (by decide +kernel), List.mem_of_getElem? (i := 286) (by decide +kernel)⟩
def lw_privs_1 : List (MethodName × Nat) := [(⟨"ScopeRunner$Rules", "childrenAreRight", "()Z"⟩, 2), (⟨"ScopeRunner$Rules", "handlersAreFlat", "()Z"⟩, 2), (⟨"ScopeRunner$Rules", "handlerKindsAreInside", "()Z"⟩, 2), (⟨"ScopeRunner$Rules", "compensatesAreRight", "()Z"⟩, 2), (⟨"ScopeRunner$Rules", "isInHandlersFlow", "(I)Z"⟩, 2), (⟨"ScopeRunner$Rules", "mayUndo", "(II)Z"⟩, 2), (⟨"ScopeRunner$Rules", "linksAreRight", "()Z"⟩, 2), (⟨"ScopeRunner$Rules", "linkIsRight", "(II)Z"⟩, 2), (⟨"ScopeRunner$Rules", "nearestAbove", "(II)I"⟩, 2), (⟨"ScopeRunner$Rules", "mayReach", "(II)Z"⟩, 2), (⟨"ScopeRunner$Rules", "orderIsRight", "()Z"⟩, 2), (⟨"ScopeRunner$Rules", "noteTree", "()V"⟩, 2), (⟨"ScopeRunner$Rules", "noteNextInSequence", "(II)V"⟩, 2), (⟨"ScopeRunner$Rules", "noteLinks", "()V"⟩, 2), (⟨"ScopeRunner$Rules", "withoutFirst", "(J)J"⟩, 2), (⟨"ScopeRunner$Rules", "startIsRight", "()Z"⟩, 2)]
theorem lw_r1 : ∀ q ∈ lw_privs_1, lw_okq q := List.forall_mem_cons.mpr ⟨lw_p0, List.forall_mem_cons.mpr ⟨lw_p1, List.forall_mem_cons.mpr ⟨lw_p2, List.forall_mem_cons.mpr ⟨lw_p3, List.forall_mem_cons.mpr ⟨lw_p4, List.forall_mem_cons.mpr ⟨lw_p5, List.forall_mem_cons.mpr ⟨lw_p6, List.forall_mem_cons.mpr ⟨lw_p7, List.forall_mem_cons.mpr ⟨lw_p8, List.forall_mem_cons.mpr ⟨lw_p9, List.forall_mem_cons.mpr ⟨lw_p10, List.forall_mem_cons.mpr ⟨lw_p11, List.forall_mem_cons.mpr ⟨lw_p12, List.forall_mem_cons.mpr ⟨lw_p13, List.forall_mem_cons.mpr ⟨lw_p14, List.forall_mem_cons.mpr ⟨lw_p15, fun _ h => absurd h List.not_mem_nil⟩⟩⟩⟩⟩⟩⟩⟩⟩⟩⟩⟩⟩⟩⟩⟩
theorem lw_p16 : lw_okq (⟨"ScopeRunner", "runningWith", "(I)I"⟩, 5) := ⟨⟨by decide +kernel, by decide +kernel⟩, List.mem_of_getElem? (i := 14) (by decide +kernel), List.mem_of_getElem? (i := 309) (by decide +kernel), List.mem_of_getElem? (i := 310) (by decide +kernel)⟩
theorem lw_p17 : lw_okq (⟨"ScopeRunner", "find", "(I)LScopeRunner$Instance;"⟩, 5) := ⟨⟨by decide +kernel, by decide +kernel⟩, List.mem_of_getElem? (i := 14) (by decide +kernel), List.mem_of_getElem? (i := 313) (by decide +kernel), List.mem_of_getElem? (i := 314) (by decide +kernel)⟩
theorem lw_p18 : lw_okq (⟨"ScopeRunner$Instance", "waitingReceive", "(I)I"⟩, 16) := ⟨⟨by decide +kernel, by decide +kernel⟩, List.mem_of_getElem? (i := 323) (by decide +kernel), List.mem_of_getElem? (i := 321) (by decide +kernel), List.mem_of_getElem? (i := 322) (by decide +kernel)⟩
theorem lw_p19 : lw_okq (⟨"ScopeRunner$Instance", "completes", "(I)V"⟩, 16) := ⟨⟨by decide +kernel, by decide +kernel⟩, List.mem_of_getElem? (i := 323) (by decide +kernel), List.mem_of_getElem? (i := 330) (by decide +kernel), List.mem_of_getElem? (i := 331) (by decide +kernel)⟩
theorem lw_p20 : lw_okq (⟨"ScopeRunner$Instance", "settle", "()V"⟩, 16) := ⟨⟨by decide +kernel, by decide +kernel⟩, List.mem_of_getElem? (i := 323) (by decide +kernel), List.mem_of_getElem? (i := 334) (by decide +kernel), List.mem_of_getElem? (i := 335) (by decide +kernel)⟩
theorem lw_p21 : lw_okq (⟨"ScopeRunner$Instance", "complete", "(I)V"⟩, 16) := ⟨⟨by decide +kernel, by decide +kernel⟩, List.mem_of_getElem? (i := 323) (by decide +kernel), List.mem_of_getElem? (i := 338) (by decide +kernel), List.mem_of_getElem? (i := 339) (by decide +kernel)⟩
theorem lw_p22 : lw_okq (⟨"ScopeRunner$Instance", "become", "(III)V"⟩, 16) := ⟨⟨by decide +kernel, by decide +kernel⟩, List.mem_of_getElem? (i := 323) (by decide +kernel), List.mem_of_getElem? (i := 342) (by decide +kernel), List.mem_of_getElem? (i := 343) (by decide +kernel)⟩
theorem lw_p23 : lw_okq (⟨"ScopeRunner$Instance", "reports", "(I)V"⟩, 16) := ⟨⟨by decide +kernel, by decide +kernel⟩, List.mem_of_getElem? (i := 323) (by decide +kernel), List.mem_of_getElem? (i := 358) (by decide +kernel), List.mem_of_getElem? (i := 359) (by decide +kernel)⟩
theorem lw_p24 : lw_okq (⟨"ScopeRunner$Instance", "report", "(I)V"⟩, 16) := ⟨⟨by decide +kernel, by decide +kernel⟩, List.mem_of_getElem? (i := 323) (by decide +kernel), List.mem_of_getElem? (i := 362) (by decide +kernel), List.mem_of_getElem? (i := 363) (by decide +kernel)⟩
theorem lw_p25 : lw_okq (⟨"ScopeRunner$Entries", "moveAll", "(II)V"⟩, 4) := ⟨⟨by decide +kernel, by decide +kernel⟩, List.mem_of_getElem? (i := 372) (by decide +kernel), List.mem_of_getElem? (i := 370) (by decide +kernel), List.mem_of_getElem? (i := 371) (by decide +kernel)⟩
theorem lw_p26 : lw_okq (⟨"ScopeRunner$Instance", "endUndo", "(III)V"⟩, 16) := ⟨⟨by decide +kernel, by decide +kernel⟩, List.mem_of_getElem? (i := 323) (by decide +kernel), List.mem_of_getElem? (i := 375) (by decide +kernel), List.mem_of_getElem? (i := 376) (by decide +kernel)⟩
theorem lw_p27 : lw_okq (⟨"ScopeRunner$Instance", "endBody", "(II)V"⟩, 16) := ⟨⟨by decide +kernel, by decide +kernel⟩, List.mem_of_getElem? (i := 323) (by decide +kernel), List.mem_of_getElem? (i := 379) (by decide +kernel), List.mem_of_getElem? (i := 380) (by decide +kernel)⟩
theorem lw_p28 : lw_okq (⟨"ScopeRunner$Instance", "faults", "(II)V"⟩, 16) := ⟨⟨by decide +kernel, by decide +kernel⟩, List.mem_of_getElem? (i := 323) (by decide +kernel), List.mem_of_getElem? (i := 387) (by decide +kernel), List.mem_of_getElem? (i := 388) (by decide +kernel)⟩
theorem lw_p29 : lw_okq (⟨"ScopeRunner$Instance", "openOrComplete", "(II)V"⟩, 16) := ⟨⟨by decide +kernel, by decide +kernel⟩, List.mem_of_getElem? (i := 323) (by decide +kernel), List.mem_of_getElem? (i := 396) (by decide +kernel), List.mem_of_getElem? (i := 397) (by decide +kernel)⟩
theorem lw_p30 : lw_okq (⟨"ScopeRunner$Instance", "allChildrenEnded", "(I)Z"⟩, 16) := ⟨⟨by decide +kernel, by decide +kernel⟩, List.mem_of_getElem? (i := 323) (by decide +kernel), List.mem_of_getElem? (i := 400) (by decide +kernel), List.mem_of_getElem? (i := 401) (by decide +kernel)⟩
theorem lw_p31 : lw_okq (⟨"ScopeRunner$Instance", "fault", "(II)V"⟩, 16) := ⟨⟨by decide +kernel, by decide +kernel⟩, List.mem_of_getElem? (i := 323) (by decide +kernel), List.mem_of_getElem? (i := 404) (by decide +kernel), List.mem_of_getElem? (i := 405) (by decide +kernel)⟩
def lw_privs_2 : List (MethodName × Nat) := [(⟨"ScopeRunner", "runningWith", "(I)I"⟩, 5), (⟨"ScopeRunner", "find", "(I)LScopeRunner$Instance;"⟩, 5), (⟨"ScopeRunner$Instance", "waitingReceive", "(I)I"⟩, 16), (⟨"ScopeRunner$Instance", "completes", "(I)V"⟩, 16), (⟨"ScopeRunner$Instance", "settle", "()V"⟩, 16), (⟨"ScopeRunner$Instance", "complete", "(I)V"⟩, 16), (⟨"ScopeRunner$Instance", "become", "(III)V"⟩, 16), (⟨"ScopeRunner$Instance", "reports", "(I)V"⟩, 16), (⟨"ScopeRunner$Instance", "report", "(I)V"⟩, 16), (⟨"ScopeRunner$Entries", "moveAll", "(II)V"⟩, 4), (⟨"ScopeRunner$Instance", "endUndo", "(III)V"⟩, 16), (⟨"ScopeRunner$Instance", "endBody", "(II)V"⟩, 16), (⟨"ScopeRunner$Instance", "faults", "(II)V"⟩, 16), (⟨"ScopeRunner$Instance", "openOrComplete", "(II)V"⟩, 16), (⟨"ScopeRunner$Instance", "allChildrenEnded", "(I)Z"⟩, 16), (⟨"ScopeRunner$Instance", "fault", "(II)V"⟩, 16)]
theorem lw_r2 : ∀ q ∈ lw_privs_2, lw_okq q := List.forall_mem_cons.mpr ⟨lw_p16, List.forall_mem_cons.mpr ⟨lw_p17, List.forall_mem_cons.mpr ⟨lw_p18, List.forall_mem_cons.mpr ⟨lw_p19, List.forall_mem_cons.mpr ⟨lw_p20, List.forall_mem_cons.mpr ⟨lw_p21, List.forall_mem_cons.mpr ⟨lw_p22, List.forall_mem_cons.mpr ⟨lw_p23, List.forall_mem_cons.mpr ⟨lw_p24, List.forall_mem_cons.mpr ⟨lw_p25, List.forall_mem_cons.mpr ⟨lw_p26, List.forall_mem_cons.mpr ⟨lw_p27, List.forall_mem_cons.mpr ⟨lw_p28, List.forall_mem_cons.mpr ⟨lw_p29, List.forall_mem_cons.mpr ⟨lw_p30, List.forall_mem_cons.mpr ⟨lw_p31, fun _ h => absurd h List.not_mem_nil⟩⟩⟩⟩⟩⟩⟩⟩⟩⟩⟩⟩⟩⟩⟩⟩
theorem lw_p32 : lw_okq (⟨"ScopeRunner$Instance", "endWithin", "(I)I"⟩, 16) := ⟨⟨by decide +kernel, by decide +kernel⟩, List.mem_of_getElem? (i := 323) (by decide +kernel), List.mem_of_getElem? (i := 408) (by decide +kernel), List.mem_of_getElem? (i := 409) (by decide +kernel)⟩
theorem lw_p33 : lw_okq (⟨"ScopeRunner$Instance", "entryFails", "(II)V"⟩, 16) := ⟨⟨by decide +kernel, by decide +kernel⟩, List.mem_of_getElem? (i := 323) (by decide +kernel), List.mem_of_getElem? (i := 416) (by decide +kernel), List.mem_of_getElem? (i := 417) (by decide +kernel)⟩
theorem lw_p34 : lw_okq (⟨"ScopeRunner$Instance", "takeFault", "(II)V"⟩, 16) := ⟨⟨by decide +kernel, by decide +kernel⟩, List.mem_of_getElem? (i := 323) (by decide +kernel), List.mem_of_getElem? (i := 430) (by decide +kernel), List.mem_of_getElem? (i := 431) (by decide +kernel)⟩
theorem lw_p35 : lw_okq (⟨"ScopeRunner$Instance", "becomeUndoer", "(II)V"⟩, 16) := ⟨⟨by decide +kernel, by decide +kernel⟩, List.mem_of_getElem? (i := 323) (by decide +kernel), List.mem_of_getElem? (i := 435) (by decide +kernel), List.mem_of_getElem? (i := 436) (by decide +kernel)⟩
theorem lw_p36 : lw_okq (⟨"ScopeRunner$Instance", "failEntry", "(II)V"⟩, 16) := ⟨⟨by decide +kernel, by decide +kernel⟩, List.mem_of_getElem? (i := 323) (by decide +kernel), List.mem_of_getElem? (i := 439) (by decide +kernel), List.mem_of_getElem? (i := 440) (by decide +kernel)⟩
theorem lw_p37 : lw_okq (⟨"ScopeRunner$Instance", "canStep", "(I)Z"⟩, 16) := ⟨⟨by decide +kernel, by decide +kernel⟩, List.mem_of_getElem? (i := 323) (by decide +kernel), List.mem_of_getElem? (i := 589) (by decide +kernel), List.mem_of_getElem? (i := 590) (by decide +kernel)⟩
theorem lw_p38 : lw_okq (⟨"ScopeRunner$Links", "countTo", "(II)I"⟩, 2) := ⟨⟨by decide +kernel, by decide +kernel⟩, List.mem_of_getElem? (i := 473) (by decide +kernel), List.mem_of_getElem? (i := 597) (by decide +kernel), List.mem_of_getElem? (i := 598) (by decide +kernel)⟩
theorem lw_p39 : lw_okq (⟨"ScopeRunner$Instance", "loop", "(I)V"⟩, 16) := ⟨⟨by decide +kernel, by decide +kernel⟩, List.mem_of_getElem? (i := 323) (by decide +kernel), List.mem_of_getElem? (i := 601) (by decide +kernel), List.mem_of_getElem? (i := 602) (by decide +kernel)⟩
theorem lw_p40 : lw_okq (⟨"ScopeRunner$Instance", "conditionHolds", "(I)Z"⟩, 16) := ⟨⟨by decide +kernel, by decide +kernel⟩, List.mem_of_getElem? (i := 323) (by decide +kernel), List.mem_of_getElem? (i := 605) (by decide +kernel), List.mem_of_getElem? (i := 606) (by decide +kernel)⟩
theorem lw_p41 : lw_okq (⟨"ScopeRunner$Instance", "renew", "(I)V"⟩, 16) := ⟨⟨by decide +kernel, by decide +kernel⟩, List.mem_of_getElem? (i := 323) (by decide +kernel), List.mem_of_getElem? (i := 610) (by decide +kernel), List.mem_of_getElem? (i := 611) (by decide +kernel)⟩
theorem lw_p42 : lw_okq (⟨"ScopeRunner$Instance", "undoLatest", "(I)V"⟩, 16) := ⟨⟨by decide +kernel, by decide +kernel⟩, List.mem_of_getElem? (i := 323) (by decide +kernel), List.mem_of_getElem? (i := 619) (by decide +kernel), List.mem_of_getElem? (i := 620) (by decide +kernel)⟩
theorem lw_p43 : lw_okq (⟨"ScopeRunner$Instance", "undo", "(II)V"⟩, 16) := ⟨⟨by decide +kernel, by decide +kernel⟩, List.mem_of_getElem? (i := 323) (by decide +kernel), List.mem_of_getElem? (i := 627) (by decide +kernel), List.mem_of_getElem? (i := 628) (by decide +kernel)⟩
theorem lw_p44 : lw_okq (⟨"ScopeRunner$Instance", "begin", "(I)V"⟩, 16) := ⟨⟨by decide +kernel, by decide +kernel⟩, List.mem_of_getElem? (i := 323) (by decide +kernel), List.mem_of_getElem? (i := 641) (by decide +kernel), List.mem_of_getElem? (i := 642) (by decide +kernel)⟩
theorem lw_p45 : lw_okq (⟨"ScopeRunner$Instance", "beginReceive", "(I)V"⟩, 16) := ⟨⟨by decide +kernel, by decide +kernel⟩, List.mem_of_getElem? (i := 323) (by decide +kernel), List.mem_of_getElem? (i := 645) (by decide +kernel), List.mem_of_getElem? (i := 646) (by decide +kernel)⟩
theorem lw_p46 : lw_okq (⟨"ScopeRunner$Instance", "beginFlow", "(I)V"⟩, 16) := ⟨⟨by decide +kernel, by decide +kernel⟩, List.mem_of_getElem? (i := 323) (by decide +kernel), List.mem_of_getElem? (i := 649) (by decide +kernel), List.mem_of_getElem? (i := 650) (by decide +kernel)⟩
theorem lw_p47 : lw_okq (⟨"ScopeRunner$Instance", "beginIf", "(I)V"⟩, 16) := ⟨⟨by decide +kernel, by decide +kernel⟩, List.mem_of_getElem? (i := 323) (by decide +kernel), List.mem_of_getElem? (i := 653) (by decide +kernel), List.mem_of_getElem? (i := 654) (by decide +kernel)⟩
def lw_privs_3 : List (MethodName × Nat) := [(⟨"ScopeRunner$Instance", "endWithin", "(I)I"⟩, 16), (⟨"ScopeRunner$Instance", "entryFails", "(II)V"⟩, 16), (⟨"ScopeRunner$Instance", "takeFault", "(II)V"⟩, 16), (⟨"ScopeRunner$Instance", "becomeUndoer", "(II)V"⟩, 16), (⟨"ScopeRunner$Instance", "failEntry", "(II)V"⟩, 16), (⟨"ScopeRunner$Instance", "canStep", "(I)Z"⟩, 16), (⟨"ScopeRunner$Links", "countTo", "(II)I"⟩, 2), (⟨"ScopeRunner$Instance", "loop", "(I)V"⟩, 16), (⟨"ScopeRunner$Instance", "conditionHolds", "(I)Z"⟩, 16), (⟨"ScopeRunner$Instance", "renew", "(I)V"⟩, 16), (⟨"ScopeRunner$Instance", "undoLatest", "(I)V"⟩, 16), (⟨"ScopeRunner$Instance", "undo", "(II)V"⟩, 16), (⟨"ScopeRunner$Instance", "begin", "(I)V"⟩, 16), (⟨"ScopeRunner$Instance", "beginReceive", "(I)V"⟩, 16), (⟨"ScopeRunner$Instance", "beginFlow", "(I)V"⟩, 16), (⟨"ScopeRunner$Instance", "beginIf", "(I)V"⟩, 16)]
theorem lw_r3 : ∀ q ∈ lw_privs_3, lw_okq q := List.forall_mem_cons.mpr ⟨lw_p32, List.forall_mem_cons.mpr ⟨lw_p33, List.forall_mem_cons.mpr ⟨lw_p34, List.forall_mem_cons.mpr ⟨lw_p35, List.forall_mem_cons.mpr ⟨lw_p36, List.forall_mem_cons.mpr ⟨lw_p37, List.forall_mem_cons.mpr ⟨lw_p38, List.forall_mem_cons.mpr ⟨lw_p39, List.forall_mem_cons.mpr ⟨lw_p40, List.forall_mem_cons.mpr ⟨lw_p41, List.forall_mem_cons.mpr ⟨lw_p42, List.forall_mem_cons.mpr ⟨lw_p43, List.forall_mem_cons.mpr ⟨lw_p44, List.forall_mem_cons.mpr ⟨lw_p45, List.forall_mem_cons.mpr ⟨lw_p46, List.forall_mem_cons.mpr ⟨lw_p47, fun _ h => absurd h List.not_mem_nil⟩⟩⟩⟩⟩⟩⟩⟩⟩⟩⟩⟩⟩⟩⟩⟩
theorem lw_p48 : lw_okq (⟨"ScopeRunner$Instance", "skip", "(I)V"⟩, 16) := ⟨⟨by decide +kernel, by decide +kernel⟩, List.mem_of_getElem? (i := 323) (by decide +kernel), List.mem_of_getElem? (i := 657) (by decide +kernel), List.mem_of_getElem? (i := 658) (by decide +kernel)⟩
theorem lw_p49 : lw_okq (⟨"ScopeRunner$Instance", "beginScope", "(I)V"⟩, 16) := ⟨⟨by decide +kernel, by decide +kernel⟩, List.mem_of_getElem? (i := 323) (by decide +kernel), List.mem_of_getElem? (i := 661) (by decide +kernel), List.mem_of_getElem? (i := 662) (by decide +kernel)⟩
theorem lw_p50 : lw_okq (⟨"ScopeRunner$Instance", "missJoin", "(I)V"⟩, 16) := ⟨⟨by decide +kernel, by decide +kernel⟩, List.mem_of_getElem? (i := 323) (by decide +kernel), List.mem_of_getElem? (i := 665) (by decide +kernel), List.mem_of_getElem? (i := 666) (by decide +kernel)⟩
theorem lw_p51 : lw_okq (⟨"ScopeRunnerModel", "numbersFit", "(III)Z"⟩, 37) := ⟨⟨by decide +kernel, by decide +kernel⟩, List.mem_of_getElem? (i := 731) (by decide +kernel), List.mem_of_getElem? (i := 856) (by decide +kernel), List.mem_of_getElem? (i := 857) (by decide +kernel)⟩
theorem lw_p52 : lw_okq (⟨"ScopeRunnerModel", "inRole", "(II)I"⟩, 37) := ⟨⟨by decide +kernel, by decide +kernel⟩, List.mem_of_getElem? (i := 731) (by decide +kernel), List.mem_of_getElem? (i := 860) (by decide +kernel), List.mem_of_getElem? (i := 861) (by decide +kernel)⟩
theorem lw_p53 : lw_okq (⟨"ScopeRunnerModel", "nextInRole", "(III)I"⟩, 37) := ⟨⟨by decide +kernel, by decide +kernel⟩, List.mem_of_getElem? (i := 731) (by decide +kernel), List.mem_of_getElem? (i := 864) (by decide +kernel), List.mem_of_getElem? (i := 865) (by decide +kernel)⟩
theorem lw_p54 : lw_okq (⟨"ScopeRunnerModel", "rule1", "()Z"⟩, 37) := ⟨⟨by decide +kernel, by decide +kernel⟩, List.mem_of_getElem? (i := 731) (by decide +kernel), List.mem_of_getElem? (i := 880) (by decide +kernel), List.mem_of_getElem? (i := 881) (by decide +kernel)⟩
theorem lw_p55 : lw_okq (⟨"ScopeRunnerModel", "children", "(I)I"⟩, 37) := ⟨⟨by decide +kernel, by decide +kernel⟩, List.mem_of_getElem? (i := 731) (by decide +kernel), List.mem_of_getElem? (i := 884) (by decide +kernel), List.mem_of_getElem? (i := 885) (by decide +kernel)⟩
theorem lw_p56 : lw_okq (⟨"ScopeRunnerModel", "rule2", "()Z"⟩, 37) := ⟨⟨by decide +kernel, by decide +kernel⟩, List.mem_of_getElem? (i := 731) (by decide +kernel), List.mem_of_getElem? (i := 888) (by decide +kernel), List.mem_of_getElem? (i := 889) (by decide +kernel)⟩
theorem lw_p57 : lw_okq (⟨"ScopeRunnerModel", "handler", "(I)I"⟩, 37) := ⟨⟨by decide +kernel, by decide +kernel⟩, List.mem_of_getElem? (i := 731) (by decide +kernel), List.mem_of_getElem? (i := 892) (by decide +kernel), List.mem_of_getElem? (i := 893) (by decide +kernel)⟩
theorem lw_p58 : lw_okq (⟨"ScopeRunnerModel", "rule3", "()Z"⟩, 37) := ⟨⟨by decide +kernel, by decide +kernel⟩, List.mem_of_getElem? (i := 731) (by decide +kernel), List.mem_of_getElem? (i := 896) (by decide +kernel), List.mem_of_getElem? (i := 897) (by decide +kernel)⟩
theorem lw_p59 : lw_okq (⟨"ScopeRunnerModel", "rule4", "()Z"⟩, 37) := ⟨⟨by decide +kernel, by decide +kernel⟩, List.mem_of_getElem? (i := 731) (by decide +kernel), List.mem_of_getElem? (i := 900) (by decide +kernel), List.mem_of_getElem? (i := 901) (by decide +kernel)⟩
theorem lw_p60 : lw_okq (⟨"ScopeRunnerModel", "below", "(II)Z"⟩, 37) := ⟨⟨by decide +kernel, by decide +kernel⟩, List.mem_of_getElem? (i := 731) (by decide +kernel), List.mem_of_getElem? (i := 904) (by decide +kernel), List.mem_of_getElem? (i := 905) (by decide +kernel)⟩
theorem lw_p61 : lw_okq (⟨"ScopeRunnerModel", "around", "(I)I"⟩, 37) := ⟨⟨by decide +kernel, by decide +kernel⟩, List.mem_of_getElem? (i := 731) (by decide +kernel), List.mem_of_getElem? (i := 908) (by decide +kernel), List.mem_of_getElem? (i := 909) (by decide +kernel)⟩
theorem lw_p62 : lw_okq (⟨"ScopeRunnerModel", "rule5", "(I)Z"⟩, 37) := ⟨⟨by decide +kernel, by decide +kernel⟩, List.mem_of_getElem? (i := 731) (by decide +kernel), List.mem_of_getElem? (i := 912) (by decide +kernel), List.mem_of_getElem? (i := 913) (by decide +kernel)⟩
theorem lw_p63 : lw_okq (⟨"ScopeRunnerModel", "rule6", "()Z"⟩, 37) := ⟨⟨by decide +kernel, by decide +kernel⟩, List.mem_of_getElem? (i := 731) (by decide +kernel), List.mem_of_getElem? (i := 916) (by decide +kernel), List.mem_of_getElem? (i := 917) (by decide +kernel)⟩
def lw_privs_4 : List (MethodName × Nat) := [(⟨"ScopeRunner$Instance", "skip", "(I)V"⟩, 16), (⟨"ScopeRunner$Instance", "beginScope", "(I)V"⟩, 16), (⟨"ScopeRunner$Instance", "missJoin", "(I)V"⟩, 16), (⟨"ScopeRunnerModel", "numbersFit", "(III)Z"⟩, 37), (⟨"ScopeRunnerModel", "inRole", "(II)I"⟩, 37), (⟨"ScopeRunnerModel", "nextInRole", "(III)I"⟩, 37), (⟨"ScopeRunnerModel", "rule1", "()Z"⟩, 37), (⟨"ScopeRunnerModel", "children", "(I)I"⟩, 37), (⟨"ScopeRunnerModel", "rule2", "()Z"⟩, 37), (⟨"ScopeRunnerModel", "handler", "(I)I"⟩, 37), (⟨"ScopeRunnerModel", "rule3", "()Z"⟩, 37), (⟨"ScopeRunnerModel", "rule4", "()Z"⟩, 37), (⟨"ScopeRunnerModel", "below", "(II)Z"⟩, 37), (⟨"ScopeRunnerModel", "around", "(I)I"⟩, 37), (⟨"ScopeRunnerModel", "rule5", "(I)Z"⟩, 37), (⟨"ScopeRunnerModel", "rule6", "()Z"⟩, 37)]
theorem lw_r4 : ∀ q ∈ lw_privs_4, lw_okq q := List.forall_mem_cons.mpr ⟨lw_p48, List.forall_mem_cons.mpr ⟨lw_p49, List.forall_mem_cons.mpr ⟨lw_p50, List.forall_mem_cons.mpr ⟨lw_p51, List.forall_mem_cons.mpr ⟨lw_p52, List.forall_mem_cons.mpr ⟨lw_p53, List.forall_mem_cons.mpr ⟨lw_p54, List.forall_mem_cons.mpr ⟨lw_p55, List.forall_mem_cons.mpr ⟨lw_p56, List.forall_mem_cons.mpr ⟨lw_p57, List.forall_mem_cons.mpr ⟨lw_p58, List.forall_mem_cons.mpr ⟨lw_p59, List.forall_mem_cons.mpr ⟨lw_p60, List.forall_mem_cons.mpr ⟨lw_p61, List.forall_mem_cons.mpr ⟨lw_p62, List.forall_mem_cons.mpr ⟨lw_p63, fun _ h => absurd h List.not_mem_nil⟩⟩⟩⟩⟩⟩⟩⟩⟩⟩⟩⟩⟩⟩⟩⟩
theorem lw_p64 : lw_okq (⟨"ScopeRunnerModel", "before", "(II)V"⟩, 37) := ⟨⟨by decide +kernel, by decide +kernel⟩, List.mem_of_getElem? (i := 731) (by decide +kernel), List.mem_of_getElem? (i := 920) (by decide +kernel), List.mem_of_getElem? (i := 921) (by decide +kernel)⟩
theorem lw_p65 : lw_okq (⟨"ScopeRunnerModel", "rule7", "()Z"⟩, 37) := ⟨⟨by decide +kernel, by decide +kernel⟩, List.mem_of_getElem? (i := 731) (by decide +kernel), List.mem_of_getElem? (i := 924) (by decide +kernel), List.mem_of_getElem? (i := 925) (by decide +kernel)⟩
theorem lw_p66 : lw_okq (⟨"ScopeRunnerModel", "targeted", "(I)Z"⟩, 37) := ⟨⟨by decide +kernel, by decide +kernel⟩, List.mem_of_getElem? (i := 731) (by decide +kernel), List.mem_of_getElem? (i := 928) (by decide +kernel), List.mem_of_getElem? (i := 929) (by decide +kernel)⟩
theorem lw_p67 : lw_okq (⟨"ScopeRunnerModel", "waiting", "(I)I"⟩, 37) := ⟨⟨by decide +kernel, by decide +kernel⟩, List.mem_of_getElem? (i := 731) (by decide +kernel), List.mem_of_getElem? (i := 936) (by decide +kernel), List.mem_of_getElem? (i := 937) (by decide +kernel)⟩
theorem lw_p68 : lw_okq (⟨"ScopeRunnerModel", "st", "(I)I"⟩, 37) := ⟨⟨by decide +kernel, by decide +kernel⟩, List.mem_of_getElem? (i := 731) (by decide +kernel), List.mem_of_getElem? (i := 940) (by decide +kernel), List.mem_of_getElem? (i := 941) (by decide +kernel)⟩
theorem lw_p69 : lw_okq (⟨"ScopeRunnerModel", "store", "(III)V"⟩, 37) := ⟨⟨by decide +kernel, by decide +kernel⟩, List.mem_of_getElem? (i := 731) (by decide +kernel), List.mem_of_getElem? (i := 944) (by decide +kernel), List.mem_of_getElem? (i := 945) (by decide +kernel)⟩
theorem lw_p70 : lw_okq (⟨"ScopeRunnerModel", "then", "(III)V"⟩, 37) := ⟨⟨by decide +kernel, by decide +kernel⟩, List.mem_of_getElem? (i := 731) (by decide +kernel), List.mem_of_getElem? (i := 948) (by decide +kernel), List.mem_of_getElem? (i := 949) (by decide +kernel)⟩
theorem lw_p71 : lw_okq (⟨"ScopeRunnerModel", "settle", "()V"⟩, 37) := ⟨⟨by decide +kernel, by decide +kernel⟩, List.mem_of_getElem? (i := 731) (by decide +kernel), List.mem_of_getElem? (i := 952) (by decide +kernel), List.mem_of_getElem? (i := 953) (by decide +kernel)⟩
theorem lw_p72 : lw_okq (⟨"ScopeRunnerModel", "complete", "(I)V"⟩, 37) := ⟨⟨by decide +kernel, by decide +kernel⟩, List.mem_of_getElem? (i := 731) (by decide +kernel), List.mem_of_getElem? (i := 956) (by decide +kernel), List.mem_of_getElem? (i := 957) (by decide +kernel)⟩
theorem lw_p73 : lw_okq (⟨"ScopeRunnerModel", "put", "(II)V"⟩, 37) := ⟨⟨by decide +kernel, by decide +kernel⟩, List.mem_of_getElem? (i := 731) (by decide +kernel), List.mem_of_getElem? (i := 960) (by decide +kernel), List.mem_of_getElem? (i := 961) (by decide +kernel)⟩
theorem lw_p74 : lw_okq (⟨"ScopeRunnerModel", "write", "(II)V"⟩, 37) := ⟨⟨by decide +kernel, by decide +kernel⟩, List.mem_of_getElem? (i := 731) (by decide +kernel), List.mem_of_getElem? (i := 964) (by decide +kernel), List.mem_of_getElem? (i := 965) (by decide +kernel)⟩
theorem lw_p75 : lw_okq (⟨"ScopeRunnerModel", "see", "(II)I"⟩, 37) := ⟨⟨by decide +kernel, by decide +kernel⟩, List.mem_of_getElem? (i := 731) (by decide +kernel), List.mem_of_getElem? (i := 968) (by decide +kernel), List.mem_of_getElem? (i := 969) (by decide +kernel)⟩
theorem lw_p76 : lw_okq (⟨"ScopeRunnerModel", "report", "(I)V"⟩, 37) := ⟨⟨by decide +kernel, by decide +kernel⟩, List.mem_of_getElem? (i := 731) (by decide +kernel), List.mem_of_getElem? (i := 972) (by decide +kernel), List.mem_of_getElem? (i := 973) (by decide +kernel)⟩
theorem lw_p77 : lw_okq (⟨"ScopeRunnerModel", "carry", "(II)V"⟩, 37) := ⟨⟨by decide +kernel, by decide +kernel⟩, List.mem_of_getElem? (i := 731) (by decide +kernel), List.mem_of_getElem? (i := 976) (by decide +kernel), List.mem_of_getElem? (i := 977) (by decide +kernel)⟩
theorem lw_p78 : lw_okq (⟨"ScopeRunnerModel", "bodyDone", "(I)V"⟩, 37) := ⟨⟨by decide +kernel, by decide +kernel⟩, List.mem_of_getElem? (i := 731) (by decide +kernel), List.mem_of_getElem? (i := 980) (by decide +kernel), List.mem_of_getElem? (i := 981) (by decide +kernel)⟩
theorem lw_p79 : lw_okq (⟨"ScopeRunnerModel", "faults", "(II)V"⟩, 37) := ⟨⟨by decide +kernel, by decide +kernel⟩, List.mem_of_getElem? (i := 731) (by decide +kernel), List.mem_of_getElem? (i := 984) (by decide +kernel), List.mem_of_getElem? (i := 985) (by decide +kernel)⟩
def lw_privs_5 : List (MethodName × Nat) := [(⟨"ScopeRunnerModel", "before", "(II)V"⟩, 37), (⟨"ScopeRunnerModel", "rule7", "()Z"⟩, 37), (⟨"ScopeRunnerModel", "targeted", "(I)Z"⟩, 37), (⟨"ScopeRunnerModel", "waiting", "(I)I"⟩, 37), (⟨"ScopeRunnerModel", "st", "(I)I"⟩, 37), (⟨"ScopeRunnerModel", "store", "(III)V"⟩, 37), (⟨"ScopeRunnerModel", "then", "(III)V"⟩, 37), (⟨"ScopeRunnerModel", "settle", "()V"⟩, 37), (⟨"ScopeRunnerModel", "complete", "(I)V"⟩, 37), (⟨"ScopeRunnerModel", "put", "(II)V"⟩, 37), (⟨"ScopeRunnerModel", "write", "(II)V"⟩, 37), (⟨"ScopeRunnerModel", "see", "(II)I"⟩, 37), (⟨"ScopeRunnerModel", "report", "(I)V"⟩, 37), (⟨"ScopeRunnerModel", "carry", "(II)V"⟩, 37), (⟨"ScopeRunnerModel", "bodyDone", "(I)V"⟩, 37), (⟨"ScopeRunnerModel", "faults", "(II)V"⟩, 37)]
theorem lw_r5 : ∀ q ∈ lw_privs_5, lw_okq q := List.forall_mem_cons.mpr ⟨lw_p64, List.forall_mem_cons.mpr ⟨lw_p65, List.forall_mem_cons.mpr ⟨lw_p66, List.forall_mem_cons.mpr ⟨lw_p67, List.forall_mem_cons.mpr ⟨lw_p68, List.forall_mem_cons.mpr ⟨lw_p69, List.forall_mem_cons.mpr ⟨lw_p70, List.forall_mem_cons.mpr ⟨lw_p71, List.forall_mem_cons.mpr ⟨lw_p72, List.forall_mem_cons.mpr ⟨lw_p73, List.forall_mem_cons.mpr ⟨lw_p74, List.forall_mem_cons.mpr ⟨lw_p75, List.forall_mem_cons.mpr ⟨lw_p76, List.forall_mem_cons.mpr ⟨lw_p77, List.forall_mem_cons.mpr ⟨lw_p78, List.forall_mem_cons.mpr ⟨lw_p79, fun _ h => absurd h List.not_mem_nil⟩⟩⟩⟩⟩⟩⟩⟩⟩⟩⟩⟩⟩⟩⟩⟩
theorem lw_p80 : lw_okq (⟨"ScopeRunnerModel", "active", "(I)Z"⟩, 37) := ⟨⟨by decide +kernel, by decide +kernel⟩, List.mem_of_getElem? (i := 731) (by decide +kernel), List.mem_of_getElem? (i := 988) (by decide +kernel), List.mem_of_getElem? (i := 989) (by decide +kernel)⟩
theorem lw_p81 : lw_okq (⟨"ScopeRunnerModel", "setLinks", "(IZ)V"⟩, 37) := ⟨⟨by decide +kernel, by decide +kernel⟩, List.mem_of_getElem? (i := 731) (by decide +kernel), List.mem_of_getElem? (i := 992) (by decide +kernel), List.mem_of_getElem? (i := 993) (by decide +kernel)⟩
theorem lw_p82 : lw_okq (⟨"ScopeRunnerModel", "fails", "(II)V"⟩, 37) := ⟨⟨by decide +kernel, by decide +kernel⟩, List.mem_of_getElem? (i := 731) (by decide +kernel), List.mem_of_getElem? (i := 996) (by decide +kernel), List.mem_of_getElem? (i := 997) (by decide +kernel)⟩
theorem lw_p83 : lw_okq (⟨"ScopeRunnerModel", "stepper", "()I"⟩, 37) := ⟨⟨by decide +kernel, by decide +kernel⟩, List.mem_of_getElem? (i := 731) (by decide +kernel), List.mem_of_getElem? (i := 1004) (by decide +kernel), List.mem_of_getElem? (i := 1005) (by decide +kernel)⟩
theorem lw_p84 : lw_okq (⟨"ScopeRunnerModel", "canStep", "(I)Z"⟩, 37) := ⟨⟨by decide +kernel, by decide +kernel⟩, List.mem_of_getElem? (i := 731) (by decide +kernel), List.mem_of_getElem? (i := 1008) (by decide +kernel), List.mem_of_getElem? (i := 1009) (by decide +kernel)⟩
theorem lw_p85 : lw_okq (⟨"ScopeRunnerModel", "step", "(I)V"⟩, 37) := ⟨⟨by decide +kernel, by decide +kernel⟩, List.mem_of_getElem? (i := 731) (by decide +kernel), List.mem_of_getElem? (i := 1012) (by decide +kernel), List.mem_of_getElem? (i := 1013) (by decide +kernel)⟩
theorem lw_p86 : lw_okq (⟨"ScopeRunnerModel", "undo", "(I)V"⟩, 37) := ⟨⟨by decide +kernel, by decide +kernel⟩, List.mem_of_getElem? (i := 731) (by decide +kernel), List.mem_of_getElem? (i := 1016) (by decide +kernel), List.mem_of_getElem? (i := 1017) (by decide +kernel)⟩
theorem lw_p87 : lw_okq (⟨"ScopeRunnerModel", "take", "(II)V"⟩, 37) := ⟨⟨by decide +kernel, by decide +kernel⟩, List.mem_of_getElem? (i := 731) (by decide +kernel), List.mem_of_getElem? (i := 1020) (by decide +kernel), List.mem_of_getElem? (i := 1021) (by decide +kernel)⟩
theorem lw_p88 : lw_okq (⟨"ScopeRunnerModel", "loop", "(I)V"⟩, 37) := ⟨⟨by decide +kernel, by decide +kernel⟩, List.mem_of_getElem? (i := 731) (by decide +kernel), List.mem_of_getElem? (i := 1024) (by decide +kernel), List.mem_of_getElem? (i := 1025) (by decide +kernel)⟩
theorem lw_p89 : lw_okq (⟨"ScopeRunnerModel", "joined", "(I)Z"⟩, 37) := ⟨⟨by decide +kernel, by decide +kernel⟩, List.mem_of_getElem? (i := 731) (by decide +kernel), List.mem_of_getElem? (i := 1028) (by decide +kernel), List.mem_of_getElem? (i := 1029) (by decide +kernel)⟩
theorem lw_p90 : lw_okq (⟨"ScopeRunnerModel", "skip", "(I)V"⟩, 37) := ⟨⟨by decide +kernel, by decide +kernel⟩, List.mem_of_getElem? (i := 731) (by decide +kernel), List.mem_of_getElem? (i := 1032) (by decide +kernel), List.mem_of_getElem? (i := 1033) (by decide +kernel)⟩
theorem lw_p91 : lw_okq (⟨"ScopeRunnerModel", "simple", "(I)V"⟩, 37) := ⟨⟨by decide +kernel, by decide +kernel⟩, List.mem_of_getElem? (i := 731) (by decide +kernel), List.mem_of_getElem? (i := 1036) (by decide +kernel), List.mem_of_getElem? (i := 1037) (by decide +kernel)⟩
theorem lw_p92 : lw_okq (⟨"ScopeRunnerModel", "open", "(I)V"⟩, 37) := ⟨⟨by decide +kernel, by decide +kernel⟩, List.mem_of_getElem? (i := 731) (by decide +kernel), List.mem_of_getElem? (i := 1040) (by decide +kernel), List.mem_of_getElem? (i := 1041) (by decide +kernel)⟩
theorem lw_p93 : lw_okq (⟨"ScopeRunnerModel", "isScope", "(II)Z"⟩, 37) := ⟨⟨by decide +kernel, by decide +kernel⟩, List.mem_of_getElem? (i := 731) (by decide +kernel), List.mem_of_getElem? (i := 1068) (by decide +kernel), List.mem_of_getElem? (i := 1069) (by decide +kernel)⟩
def lw_privs_6 : List (MethodName × Nat) := [(⟨"ScopeRunnerModel", "active", "(I)Z"⟩, 37), (⟨"ScopeRunnerModel", "setLinks", "(IZ)V"⟩, 37), (⟨"ScopeRunnerModel", "fails", "(II)V"⟩, 37), (⟨"ScopeRunnerModel", "stepper", "()I"⟩, 37), (⟨"ScopeRunnerModel", "canStep", "(I)Z"⟩, 37), (⟨"ScopeRunnerModel", "step", "(I)V"⟩, 37), (⟨"ScopeRunnerModel", "undo", "(I)V"⟩, 37), (⟨"ScopeRunnerModel", "take", "(II)V"⟩, 37), (⟨"ScopeRunnerModel", "loop", "(I)V"⟩, 37), (⟨"ScopeRunnerModel", "joined", "(I)Z"⟩, 37), (⟨"ScopeRunnerModel", "skip", "(I)V"⟩, 37), (⟨"ScopeRunnerModel", "simple", "(I)V"⟩, 37), (⟨"ScopeRunnerModel", "open", "(I)V"⟩, 37), (⟨"ScopeRunnerModel", "isScope", "(II)Z"⟩, 37)]
theorem lw_r6 : ∀ q ∈ lw_privs_6, lw_okq q := List.forall_mem_cons.mpr ⟨lw_p80, List.forall_mem_cons.mpr ⟨lw_p81, List.forall_mem_cons.mpr ⟨lw_p82, List.forall_mem_cons.mpr ⟨lw_p83, List.forall_mem_cons.mpr ⟨lw_p84, List.forall_mem_cons.mpr ⟨lw_p85, List.forall_mem_cons.mpr ⟨lw_p86, List.forall_mem_cons.mpr ⟨lw_p87, List.forall_mem_cons.mpr ⟨lw_p88, List.forall_mem_cons.mpr ⟨lw_p89, List.forall_mem_cons.mpr ⟨lw_p90, List.forall_mem_cons.mpr ⟨lw_p91, List.forall_mem_cons.mpr ⟨lw_p92, List.forall_mem_cons.mpr ⟨lw_p93, fun _ h => absurd h List.not_mem_nil⟩⟩⟩⟩⟩⟩⟩⟩⟩⟩⟩⟩⟩⟩
def lw_privs : List (MethodName × Nat) := lw_privs_1 ++ (lw_privs_2 ++ (lw_privs_3 ++ (lw_privs_4 ++ (lw_privs_5 ++ (lw_privs_6)))))
def lw_tbl : List Cond := k2_sels lw_privs ++ tables_1
theorem lw_privs_ok : ∀ q ∈ lw_privs, lw_okq q := by
  show ∀ q ∈ lw_privs_1 ++ (lw_privs_2 ++ (lw_privs_3 ++ (lw_privs_4 ++ (lw_privs_5 ++ (lw_privs_6))))), lw_okq q
  exact List.forall_mem_append.mpr ⟨lw_r1, List.forall_mem_append.mpr ⟨lw_r2, List.forall_mem_append.mpr ⟨lw_r3, List.forall_mem_append.mpr ⟨lw_r4, List.forall_mem_append.mpr ⟨lw_r5, lw_r6⟩⟩⟩⟩⟩
def R_S : String := "ScopeRunner"
def F_S : u_T := fun k => match k with
  | 0 => ("ScopeRunner", "plan", "LScopeRunner$Plan;", true)
  | 1 => ("ScopeRunner", "rules", "LScopeRunner$Rules;", true)
  | 2 => ("ScopeRunner", "instances", "[LScopeRunner$Instance;", true)
  | 3 => ("ScopeRunner", "made", "I", false)
  | _ => ("ScopeRunner", "deployed", "Z", false)
def t_S : Nat → FieldType := fun k => match k with
  | 0 => .object "ScopeRunner$Plan"
  | 1 => .object "ScopeRunner$Rules"
  | 2 => .array (.object "ScopeRunner$Instance")
  | 3 => .int
  | _ => .boolean
theorem n_S : ∀ a, a < 5 → ∀ b, b < 5 → a ≠ b → (F_S a).2.1 ≠ (F_S b).2.1 := by decide +kernel
theorem t_S_ok : ∀ k, k < 5 → parseFieldDescriptor (F_S k).2.2.1 = some (t_S k) := by decide +kernel
def R_P : String := "ScopeRunner$Plan"
def F_P : u_T := fun k => match k with
  | 0 => ("ScopeRunner$Plan", "parents", "[I", true)
  | 1 => ("ScopeRunner$Plan", "roles", "[I", true)
  | 2 => ("ScopeRunner$Plan", "kinds", "[I", true)
  | 3 => ("ScopeRunner$Plan", "ps", "[I", true)
  | 4 => ("ScopeRunner$Plan", "qs", "[I", true)
  | 5 => ("ScopeRunner$Plan", "modes", "[I", true)
  | 6 => ("ScopeRunner$Plan", "scopesAround", "[I", true)
  | 7 => ("ScopeRunner$Plan", "handlers", "[I", true)
  | 8 => ("ScopeRunner$Plan", "branches", "[I", true)
  | 9 => ("ScopeRunner$Plan", "within", "[I", true)
  | 10 => ("ScopeRunner$Plan", "size", "I", false)
  | 11 => ("ScopeRunner$Plan", "sources", "[I", true)
  | 12 => ("ScopeRunner$Plan", "targets", "[I", true)
  | 13 => ("ScopeRunner$Plan", "conditions", "[I", true)
  | 14 => ("ScopeRunner$Plan", "bounds", "[I", true)
  | _ => ("ScopeRunner$Plan", "linkCount", "I", false)
def t_P : Nat → FieldType := fun k => match k with
  | 0 => .array .int
  | 1 => .array .int
  | 2 => .array .int
  | 3 => .array .int
  | 4 => .array .int
  | 5 => .array .int
  | 6 => .array .int
  | 7 => .array .int
  | 8 => .array .int
  | 9 => .array .int
  | 10 => .int
  | 11 => .array .int
  | 12 => .array .int
  | 13 => .array .int
  | 14 => .array .int
  | _ => .int
theorem n_P : ∀ a, a < 16 → ∀ b, b < 16 → a ≠ b → (F_P a).2.1 ≠ (F_P b).2.1 := by decide +kernel
theorem t_P_ok : ∀ k, k < 16 → parseFieldDescriptor (F_P k).2.2.1 = some (t_P k) := by decide +kernel
def R_R : String := "ScopeRunner$Rules"
def F_R : u_T := fun k => match k with
  | 0 => ("ScopeRunner$Rules", "plan", "LScopeRunner$Plan;", true)
  | _ => ("ScopeRunner$Rules", "before", "[J", true)
def t_R : Nat → FieldType := fun k => match k with
  | 0 => .object "ScopeRunner$Plan"
  | _ => .array .long
theorem n_R : ∀ a, a < 2 → ∀ b, b < 2 → a ≠ b → (F_R a).2.1 ≠ (F_R b).2.1 := by decide +kernel
theorem t_R_ok : ∀ k, k < 2 → parseFieldDescriptor (F_R k).2.2.1 = some (t_R k) := by decide +kernel
def R_I : String := "ScopeRunner$Instance"
def F_I : u_T := fun k => match k with
  | 0 => ("ScopeRunner$Instance", "plan", "LScopeRunner$Plan;", true)
  | 1 => ("ScopeRunner$Instance", "start", "I", true)
  | 2 => ("ScopeRunner$Instance", "key", "I", true)
  | 3 => ("ScopeRunner$Instance", "startValue", "I", true)
  | 4 => ("ScopeRunner$Instance", "outcome", "I", false)
  | 5 => ("ScopeRunner$Instance", "statuses", "[I", true)
  | 6 => ("ScopeRunner$Instance", "faultsOf", "[I", true)
  | 7 => ("ScopeRunner$Instance", "takers", "[I", true)
  | 8 => ("ScopeRunner$Instance", "busy", "[Z", true)
  | 9 => ("ScopeRunner$Instance", "variables", "LScopeRunner$Variables;", true)
  | 10 => ("ScopeRunner$Instance", "links", "LScopeRunner$Links;", true)
  | 11 => ("ScopeRunner$Instance", "entries", "LScopeRunner$Entries;", true)
  | 12 => ("ScopeRunner$Instance", "log", "LScopeRunner$EventLog;", true)
  | 13 => ("ScopeRunner$Instance", "due", "I", false)
  | 14 => ("ScopeRunner$Instance", "dueActivity", "I", false)
  | _ => ("ScopeRunner$Instance", "dueFault", "I", false)
def t_I : Nat → FieldType := fun k => match k with
  | 0 => .object "ScopeRunner$Plan"
  | 1 => .int
  | 2 => .int
  | 3 => .int
  | 4 => .int
  | 5 => .array .int
  | 6 => .array .int
  | 7 => .array .int
  | 8 => .array .boolean
  | 9 => .object "ScopeRunner$Variables"
  | 10 => .object "ScopeRunner$Links"
  | 11 => .object "ScopeRunner$Entries"
  | 12 => .object "ScopeRunner$EventLog"
  | 13 => .int
  | 14 => .int
  | _ => .int
theorem n_I : ∀ a, a < 16 → ∀ b, b < 16 → a ≠ b → (F_I a).2.1 ≠ (F_I b).2.1 := by decide +kernel
theorem t_I_ok : ∀ k, k < 16 → parseFieldDescriptor (F_I k).2.2.1 = some (t_I k) := by decide +kernel
def R_V : String := "ScopeRunner$Variables"
def F_V : u_T := fun k => match k with
  | 0 => ("ScopeRunner$Variables", "plan", "LScopeRunner$Plan;", true)
  | 1 => ("ScopeRunner$Variables", "shared", "[I", true)
  | _ => ("ScopeRunner$Variables", "owned", "[I", true)
def t_V : Nat → FieldType := fun k => match k with
  | 0 => .object "ScopeRunner$Plan"
  | 1 => .array .int
  | _ => .array .int
theorem n_V : ∀ a, a < 3 → ∀ b, b < 3 → a ≠ b → (F_V a).2.1 ≠ (F_V b).2.1 := by decide +kernel
theorem t_V_ok : ∀ k, k < 3 → parseFieldDescriptor (F_V k).2.2.1 = some (t_V k) := by decide +kernel
def R_L : String := "ScopeRunner$Links"
def F_L : u_T := fun k => match k with
  | 0 => ("ScopeRunner$Links", "plan", "LScopeRunner$Plan;", true)
  | _ => ("ScopeRunner$Links", "values", "[I", true)
def t_L : Nat → FieldType := fun k => match k with
  | 0 => .object "ScopeRunner$Plan"
  | _ => .array .int
theorem n_L : ∀ a, a < 2 → ∀ b, b < 2 → a ≠ b → (F_L a).2.1 ≠ (F_L b).2.1 := by decide +kernel
theorem t_L_ok : ∀ k, k < 2 → parseFieldDescriptor (F_L k).2.2.1 = some (t_L k) := by decide +kernel
def R_E : String := "ScopeRunner$Entries"
def F_E : u_T := fun k => match k with
  | 0 => ("ScopeRunner$Entries", "scopes", "[I", true)
  | 1 => ("ScopeRunner$Entries", "owned", "[I", true)
  | 2 => ("ScopeRunner$Entries", "places", "[I", true)
  | _ => ("ScopeRunner$Entries", "count", "I", false)
def t_E : Nat → FieldType := fun k => match k with
  | 0 => .array .int
  | 1 => .array .int
  | 2 => .array .int
  | _ => .int
theorem n_E : ∀ a, a < 4 → ∀ b, b < 4 → a ≠ b → (F_E a).2.1 ≠ (F_E b).2.1 := by decide +kernel
theorem t_E_ok : ∀ k, k < 4 → parseFieldDescriptor (F_E k).2.2.1 = some (t_E k) := by decide +kernel
def R_G : String := "ScopeRunner$EventLog"
def F_G : u_T := fun k => match k with
  | 0 => ("ScopeRunner$EventLog", "latest", "[I", true)
  | _ => ("ScopeRunner$EventLog", "count", "I", false)
def t_G : Nat → FieldType := fun k => match k with
  | 0 => .array .int
  | _ => .int
theorem n_G : ∀ a, a < 2 → ∀ b, b < 2 → a ≠ b → (F_G a).2.1 ≠ (F_G b).2.1 := by decide +kernel
theorem t_G_ok : ∀ k, k < 2 → parseFieldDescriptor (F_G k).2.2.1 = some (t_G k) := by decide +kernel
def R_K : String := "ScopeRunner$Kind"
def R_T : String := "ScopeRunner$Status"
def R_M : String := "ScopeRunnerModel"
def F_M : u_T := fun k => match k with
  | 0 => ("ScopeRunnerModel", "n", "I", false)
  | 1 => ("ScopeRunnerModel", "parent", "[I", true)
  | 2 => ("ScopeRunnerModel", "role", "[I", true)
  | 3 => ("ScopeRunnerModel", "kind", "[I", true)
  | 4 => ("ScopeRunnerModel", "p", "[I", true)
  | 5 => ("ScopeRunnerModel", "q", "[I", true)
  | 6 => ("ScopeRunnerModel", "mode", "[I", true)
  | 7 => ("ScopeRunnerModel", "links", "I", false)
  | 8 => ("ScopeRunnerModel", "from", "[I", true)
  | 9 => ("ScopeRunnerModel", "to", "[I", true)
  | 10 => ("ScopeRunnerModel", "tested", "[I", true)
  | 11 => ("ScopeRunnerModel", "bound", "[I", true)
  | 12 => ("ScopeRunnerModel", "deployed", "Z", false)
  | 13 => ("ScopeRunnerModel", "start", "I", false)
  | 14 => ("ScopeRunnerModel", "rank", "[I", true)
  | 15 => ("ScopeRunnerModel", "moved", "Z", false)
  | 16 => ("ScopeRunnerModel", "made", "I", false)
  | 17 => ("ScopeRunnerModel", "state", "[I", true)
  | 18 => ("ScopeRunnerModel", "key", "[I", true)
  | 19 => ("ScopeRunnerModel", "first", "[I", true)
  | 20 => ("ScopeRunnerModel", "vars", "[I", true)
  | 21 => ("ScopeRunnerModel", "status", "[I", true)
  | 22 => ("ScopeRunnerModel", "own", "[I", true)
  | 23 => ("ScopeRunnerModel", "faultOf", "[I", true)
  | 24 => ("ScopeRunnerModel", "taker", "[I", true)
  | 25 => ("ScopeRunnerModel", "busy", "[Z", true)
  | 26 => ("ScopeRunnerModel", "linkValue", "[I", true)
  | 27 => ("ScopeRunnerModel", "entries", "[I", true)
  | 28 => ("ScopeRunnerModel", "entryScope", "[I", true)
  | 29 => ("ScopeRunnerModel", "entryOwn", "[I", true)
  | 30 => ("ScopeRunnerModel", "place", "[I", true)
  | 31 => ("ScopeRunnerModel", "log", "[I", true)
  | 32 => ("ScopeRunnerModel", "logged", "[I", true)
  | 33 => ("ScopeRunnerModel", "now", "I", false)
  | 34 => ("ScopeRunnerModel", "todo", "I", false)
  | 35 => ("ScopeRunnerModel", "who", "I", false)
  | _ => ("ScopeRunnerModel", "fault", "I", false)
def t_M : Nat → FieldType := fun k => match k with
  | 0 => .int
  | 1 => .array .int
  | 2 => .array .int
  | 3 => .array .int
  | 4 => .array .int
  | 5 => .array .int
  | 6 => .array .int
  | 7 => .int
  | 8 => .array .int
  | 9 => .array .int
  | 10 => .array .int
  | 11 => .array .int
  | 12 => .boolean
  | 13 => .int
  | 14 => .array .int
  | 15 => .boolean
  | 16 => .int
  | 17 => .array .int
  | 18 => .array .int
  | 19 => .array .int
  | 20 => .array .int
  | 21 => .array .int
  | 22 => .array .int
  | 23 => .array .int
  | 24 => .array .int
  | 25 => .array .boolean
  | 26 => .array .int
  | 27 => .array .int
  | 28 => .array .int
  | 29 => .array .int
  | 30 => .array .int
  | 31 => .array .int
  | 32 => .array .int
  | 33 => .int
  | 34 => .int
  | 35 => .int
  | _ => .int
theorem n_M : ∀ a, a < 37 → ∀ b, b < 37 → a ≠ b → (F_M a).2.1 ≠ (F_M b).2.1 := by decide +kernel
theorem t_M_ok : ∀ k, k < 37 → parseFieldDescriptor (F_M k).2.2.1 = some (t_M k) := by decide +kernel
abbrev classes : List vw_C := [(R_S, F_S, 5), (R_P, F_P, 16), (R_R, F_R, 2), (R_I, F_I, 16), (R_V, F_V, 3), (R_L, F_L, 2), (R_E, F_E, 4), (R_G, F_G, 2), (R_M, F_M, 37)]
abbrev ci_S : Nat := 0
abbrev ci_P : Nat := 1
abbrev ci_R : Nat := 2
abbrev ci_I : Nat := 3
abbrev ci_V : Nat := 4
abbrev ci_L : Nat := 5
abbrev ci_E : Nat := 6
abbrev ci_G : Nat := 7
abbrev ci_M : Nat := 8
def sr_T : List Cond := lw_tbl.filter goodWord
theorem sr_q (i : Nat) {w : Cond} (h : tables_1[i]? = some w) (g : goodWord w = true) : w ∈ sr_T := List.mem_filter.mpr ⟨List.mem_append_right _ (List.mem_of_getElem? h), g⟩
theorem sr_qs (i : Nat) {w : Cond} (h : (k2_sels lw_privs)[i]? = some w) (g : goodWord w = true) : w ∈ sr_T := List.mem_filter.mpr ⟨List.mem_append_left _ (List.mem_of_getElem? h), g⟩
theorem hinb_S : (u_ws R_S F_S 5).all (fun w => decide (w ∈ tables_1) && goodWord w) = true := by decide +kernel
theorem hin_S : ∀ w ∈ u_ws R_S F_S 5, w ∈ sr_T := fun w hw => by
  have h := List.all_eq_true.mp hinb_S w hw
  rw [Bool.and_eq_true] at h
  exact List.mem_filter.mpr ⟨List.mem_append_right _ (of_decide_eq_true h.1), h.2⟩
theorem hinb_P : (u_ws R_P F_P 16).all (fun w => decide (w ∈ tables_1) && goodWord w) = true := by decide +kernel
theorem hin_P : ∀ w ∈ u_ws R_P F_P 16, w ∈ sr_T := fun w hw => by
  have h := List.all_eq_true.mp hinb_P w hw
  rw [Bool.and_eq_true] at h
  exact List.mem_filter.mpr ⟨List.mem_append_right _ (of_decide_eq_true h.1), h.2⟩
theorem hinb_R : (u_ws R_R F_R 2).all (fun w => decide (w ∈ tables_1) && goodWord w) = true := by decide +kernel
theorem hin_R : ∀ w ∈ u_ws R_R F_R 2, w ∈ sr_T := fun w hw => by
  have h := List.all_eq_true.mp hinb_R w hw
  rw [Bool.and_eq_true] at h
  exact List.mem_filter.mpr ⟨List.mem_append_right _ (of_decide_eq_true h.1), h.2⟩
theorem hinb_I : (u_ws R_I F_I 16).all (fun w => decide (w ∈ tables_1) && goodWord w) = true := by decide +kernel
theorem hin_I : ∀ w ∈ u_ws R_I F_I 16, w ∈ sr_T := fun w hw => by
  have h := List.all_eq_true.mp hinb_I w hw
  rw [Bool.and_eq_true] at h
  exact List.mem_filter.mpr ⟨List.mem_append_right _ (of_decide_eq_true h.1), h.2⟩
theorem hinb_V : (u_ws R_V F_V 3).all (fun w => decide (w ∈ tables_1) && goodWord w) = true := by decide +kernel
theorem hin_V : ∀ w ∈ u_ws R_V F_V 3, w ∈ sr_T := fun w hw => by
  have h := List.all_eq_true.mp hinb_V w hw
  rw [Bool.and_eq_true] at h
  exact List.mem_filter.mpr ⟨List.mem_append_right _ (of_decide_eq_true h.1), h.2⟩
theorem hinb_L : (u_ws R_L F_L 2).all (fun w => decide (w ∈ tables_1) && goodWord w) = true := by decide +kernel
theorem hin_L : ∀ w ∈ u_ws R_L F_L 2, w ∈ sr_T := fun w hw => by
  have h := List.all_eq_true.mp hinb_L w hw
  rw [Bool.and_eq_true] at h
  exact List.mem_filter.mpr ⟨List.mem_append_right _ (of_decide_eq_true h.1), h.2⟩
theorem hinb_E : (u_ws R_E F_E 4).all (fun w => decide (w ∈ tables_1) && goodWord w) = true := by decide +kernel
theorem hin_E : ∀ w ∈ u_ws R_E F_E 4, w ∈ sr_T := fun w hw => by
  have h := List.all_eq_true.mp hinb_E w hw
  rw [Bool.and_eq_true] at h
  exact List.mem_filter.mpr ⟨List.mem_append_right _ (of_decide_eq_true h.1), h.2⟩
theorem hinb_G : (u_ws R_G F_G 2).all (fun w => decide (w ∈ tables_1) && goodWord w) = true := by decide +kernel
theorem hin_G : ∀ w ∈ u_ws R_G F_G 2, w ∈ sr_T := fun w hw => by
  have h := List.all_eq_true.mp hinb_G w hw
  rw [Bool.and_eq_true] at h
  exact List.mem_filter.mpr ⟨List.mem_append_right _ (of_decide_eq_true h.1), h.2⟩
theorem hinb_M : (u_ws R_M F_M 37).all (fun w => decide (w ∈ tables_1) && goodWord w) = true := by decide +kernel
theorem hin_M : ∀ w ∈ u_ws R_M F_M 37, w ∈ sr_T := fun w hw => by
  have h := List.all_eq_true.mp hinb_M w hw
  rw [Bool.and_eq_true] at h
  exact List.mem_filter.mpr ⟨List.mem_append_right _ (of_decide_eq_true h.1), h.2⟩
abbrev b_M_in : ByteArray := prog_12_method_2_code
def y_M_in : MethodName := ⟨R_M, "in", "(III)Z"⟩
def w_M_in : List Cond := .code y_M_in b_M_in 3 (some .boolean) :: sr_T
abbrev b_K_isVariable : ByteArray := prog_5_method_2_code
def y_K_isVariable : MethodName := ⟨R_K, "isVariable", "(I)Z"⟩
def w_K_isVariable : List Cond := .code y_K_isVariable b_K_isVariable 1 (some .boolean) :: sr_T
abbrev b_K_fits : ByteArray := prog_5_method_3_code
def y_K_fits : MethodName := ⟨R_K, "fits", "(III)Z"⟩
def w_K_fits : List Cond := .code y_K_fits b_K_fits 3 (some .boolean) :: sr_T
abbrev b_P_isIn : ByteArray := prog_7_method_2_code
def y_P_isIn : MethodName := ⟨R_P, "isIn", "(II)Z"⟩
def w_P_isIn : List Cond := .code y_P_isIn b_P_isIn 2 (some .boolean) :: sr_T
abbrev b_R_mayHave : ByteArray := prog_8_method_4_code
def y_R_mayHave : MethodName := ⟨R_R, "mayHave", "(II)Z"⟩
def w_R_mayHave : List Cond := .code y_R_mayHave b_R_mayHave 2 (some .boolean) :: sr_T
abbrev b_R_beginning : ByteArray := prog_8_method_19_code
def y_R_beginning : MethodName := ⟨R_R, "beginning", "(I)I"⟩
def w_R_beginning : List Cond := .code y_R_beginning b_R_beginning 1 (some .int) :: sr_T
abbrev b_R_end : ByteArray := prog_8_method_20_code
def y_R_end : MethodName := ⟨R_R, "end", "(I)I"⟩
def w_R_end : List Cond := .code y_R_end b_R_end 1 (some .int) :: sr_T
abbrev b_R_bit : ByteArray := prog_8_method_21_code
def y_R_bit : MethodName := ⟨R_R, "bit", "(I)J"⟩
def w_R_bit : List Cond := .code y_R_bit b_R_bit 1 (some .long) :: sr_T
abbrev b_T_isActive : ByteArray := prog_9_method_2_code
def y_T_isActive : MethodName := ⟨R_T, "isActive", "(I)Z"⟩
def w_T_isActive : List Cond := .code y_T_isActive b_T_isActive 1 (some .boolean) :: sr_T
abbrev b_P_hasActivity : ByteArray := prog_7_method_3_code
def y_P_hasActivity : MethodName := ⟨R_P, "hasActivity", "(I)Z"⟩
def w_P_hasActivity : List Cond := .code y_P_hasActivity b_P_hasActivity 2 (some .boolean) :: sr_T
abbrev b_P_hasScope : ByteArray := prog_7_method_4_code
def y_P_hasScope : MethodName := ⟨R_P, "hasScope", "(I)Z"⟩
def w_P_hasScope : List Cond := .code y_P_hasScope b_P_hasScope 2 (some .boolean) :: sr_T
abbrev b_P_handlerOf : ByteArray := prog_7_method_11_code
def y_P_handlerOf : MethodName := ⟨R_P, "handlerOf", "(II)I"⟩
def w_P_handlerOf : List Cond := .code y_P_handlerOf b_P_handlerOf 4 (some .int) :: sr_T
abbrev b_P_hasPlaceFor : ByteArray := prog_7_method_5_code
def y_P_hasPlaceFor : MethodName := ⟨R_P, "hasPlaceFor", "(III)Z"⟩
def w_P_hasPlaceFor : List Cond := .code y_P_hasPlaceFor b_P_hasPlaceFor 4 (some .boolean) :: sr_T
abbrev b_P_append : ByteArray := prog_7_method_6_code
def y_P_append : MethodName := ⟨R_P, "append", "(IIIII)I"⟩
def w_P_append : List Cond := .code y_P_append b_P_append 10 (some .int) :: sr_T
abbrev b_P_isLinked : ByteArray := prog_7_method_7_code
def y_P_isLinked : MethodName := ⟨R_P, "isLinked", "(II)Z"⟩
def w_P_isLinked : List Cond := .code y_P_isLinked b_P_isLinked 4 (some .boolean) :: sr_T
abbrev b_P_appendLink : ByteArray := prog_7_method_8_code
def y_P_appendLink : MethodName := ⟨R_P, "appendLink", "(IIII)I"⟩
def w_P_appendLink : List Cond := .code y_P_appendLink b_P_appendLink 5 (some .int) :: sr_T
abbrev b_P_isBelow : ByteArray := prog_7_method_9_code
def y_P_isBelow : MethodName := ⟨R_P, "isBelow", "(II)Z"⟩
def w_P_isBelow : List Cond := .code y_P_isBelow b_P_isBelow 3 (some .boolean) :: sr_T
abbrev b_P_isTarget : ByteArray := prog_7_method_10_code
def y_P_isTarget : MethodName := ⟨R_P, "isTarget", "(I)Z"⟩
def w_P_isTarget : List Cond := .code y_P_isTarget b_P_isTarget 3 (some .boolean) :: sr_T
abbrev b_P_childAfter : ByteArray := prog_7_method_12_code
def y_P_childAfter : MethodName := ⟨R_P, "childAfter", "(II)I"⟩
def w_P_childAfter : List Cond := .code y_P_childAfter b_P_childAfter 4 (some .int) :: sr_T
abbrev b_P_firstChild : ByteArray := prog_7_method_13_code
def y_P_firstChild : MethodName := ⟨R_P, "firstChild", "(I)I"⟩
def w_P_firstChild : List Cond := .code y_P_firstChild b_P_firstChild 2 (some .int) :: sr_T
abbrev b_P_countChildren : ByteArray := prog_7_method_14_code
def y_P_countChildren : MethodName := ⟨R_P, "countChildren", "(I)I"⟩
def w_P_countChildren : List Cond := .code y_P_countChildren b_P_countChildren 4 (some .int) :: sr_T
abbrev b_P_findStart : ByteArray := prog_7_method_15_code
def y_P_findStart : MethodName := ⟨R_P, "findStart", "()I"⟩
def w_P_findStart : List Cond := .code y_P_findStart b_P_findStart 3 (some .int) :: sr_T
abbrev b_P_startsWith : ByteArray := prog_7_method_16_code
def y_P_startsWith : MethodName := ⟨R_P, "startsWith", "(I)Z"⟩
def w_P_startsWith : List Cond := .code y_P_startsWith b_P_startsWith 3 (some .boolean) :: sr_T
abbrev b_M_numbersFit : ByteArray := prog_12_method_3_code
def y_M_numbersFit : MethodName := ⟨R_M, "numbersFit", "(III)Z"⟩
def w_M_numbersFit : List Cond := .code y_M_numbersFit b_M_numbersFit 5 (some .boolean) :: sr_T
abbrev b_M_nextInRole : ByteArray := prog_12_method_6_code
def y_M_nextInRole : MethodName := ⟨R_M, "nextInRole", "(III)I"⟩
def w_M_nextInRole : List Cond := .code y_M_nextInRole b_M_nextInRole 5 (some .int) :: sr_T
abbrev b_M_inRole : ByteArray := prog_12_method_5_code
def y_M_inRole : MethodName := ⟨R_M, "inRole", "(II)I"⟩
def w_M_inRole : List Cond := .code y_M_inRole b_M_inRole 3 (some .int) :: sr_T
abbrev b_M_add : ByteArray := prog_12_method_4_code
def y_M_add : MethodName := ⟨R_M, "add", "(IIIII)I"⟩
def w_M_add : List Cond := .code y_M_add b_M_add 6 (some .int) :: sr_T
abbrev b_M_children : ByteArray := prog_12_method_7_code
def y_M_children : MethodName := ⟨R_M, "children", "(I)I"⟩
def w_M_children : List Cond := .code y_M_children b_M_children 4 (some .int) :: sr_T
abbrev b_M_below : ByteArray := prog_12_method_8_code
def y_M_below : MethodName := ⟨R_M, "below", "(II)Z"⟩
def w_M_below : List Cond := .code y_M_below b_M_below 5 (some .boolean) :: sr_T
abbrev b_M_around : ByteArray := prog_12_method_9_code
def y_M_around : MethodName := ⟨R_M, "around", "(I)I"⟩
def w_M_around : List Cond := .code y_M_around b_M_around 4 (some .int) :: sr_T
abbrev b_M_handler : ByteArray := prog_12_method_10_code
def y_M_handler : MethodName := ⟨R_M, "handler", "(I)I"⟩
def w_M_handler : List Cond := .code y_M_handler b_M_handler 4 (some .int) :: sr_T
abbrev b_M_join : ByteArray := prog_12_method_11_code
def y_M_join : MethodName := ⟨R_M, "join", "(II)Z"⟩
def w_M_join : List Cond := .code y_M_join b_M_join 3 (some .boolean) :: sr_T
abbrev b_M_link : ByteArray := prog_12_method_12_code
def y_M_link : MethodName := ⟨R_M, "link", "(IIII)I"⟩
def w_M_link : List Cond := .code y_M_link b_M_link 6 (some .int) :: sr_T
abbrev b_M_rule1 : ByteArray := prog_12_method_13_code
def y_M_rule1 : MethodName := ⟨R_M, "rule1", "()Z"⟩
def w_M_rule1 : List Cond := .code y_M_rule1 b_M_rule1 4 (some .boolean) :: sr_T
abbrev b_M_rule2 : ByteArray := prog_12_method_14_code
def y_M_rule2 : MethodName := ⟨R_M, "rule2", "()Z"⟩
def w_M_rule2 : List Cond := .code y_M_rule2 b_M_rule2 2 (some .boolean) :: sr_T
abbrev b_M_rule3 : ByteArray := prog_12_method_15_code
def y_M_rule3 : MethodName := ⟨R_M, "rule3", "()Z"⟩
def w_M_rule3 : List Cond := .code y_M_rule3 b_M_rule3 3 (some .boolean) :: sr_T
abbrev b_M_rule4 : ByteArray := prog_12_method_16_code
def y_M_rule4 : MethodName := ⟨R_M, "rule4", "()Z"⟩
def w_M_rule4 : List Cond := .code y_M_rule4 b_M_rule4 3 (some .boolean) :: sr_T
abbrev b_M_rule5 : ByteArray := prog_12_method_17_code
def y_M_rule5 : MethodName := ⟨R_M, "rule5", "(I)Z"⟩
def w_M_rule5 : List Cond := .code y_M_rule5 b_M_rule5 7 (some .boolean) :: sr_T
abbrev b_M_before : ByteArray := prog_12_method_18_code
def y_M_before : MethodName := ⟨R_M, "before", "(II)V"⟩
def w_M_before : List Cond := .code y_M_before b_M_before 3 none :: sr_T
abbrev b_M_rule6 : ByteArray := prog_12_method_19_code
def y_M_rule6 : MethodName := ⟨R_M, "rule6", "()Z"⟩
def w_M_rule6 : List Cond := .code y_M_rule6 b_M_rule6 5 (some .boolean) :: sr_T
abbrev b_M_targeted : ByteArray := prog_12_method_20_code
def y_M_targeted : MethodName := ⟨R_M, "targeted", "(I)Z"⟩
def w_M_targeted : List Cond := .code y_M_targeted b_M_targeted 3 (some .boolean) :: sr_T
abbrev b_M_rule7 : ByteArray := prog_12_method_21_code
def y_M_rule7 : MethodName := ⟨R_M, "rule7", "()Z"⟩
def w_M_rule7 : List Cond := .code y_M_rule7 b_M_rule7 4 (some .boolean) :: sr_T
abbrev b_M_deploy : ByteArray := prog_12_method_22_code
def y_M_deploy : MethodName := ⟨R_M, "deploy", "()I"⟩
def w_M_deploy : List Cond := .code y_M_deploy b_M_deploy 2 (some .int) :: sr_T
abbrev b_M_st : ByteArray := prog_12_method_23_code
def y_M_st : MethodName := ⟨R_M, "st", "(I)I"⟩
def w_M_st : List Cond := .code y_M_st b_M_st 2 (some .int) :: sr_T
abbrev b_M_put : ByteArray := prog_12_method_24_code
def y_M_put : MethodName := ⟨R_M, "put", "(II)V"⟩
def w_M_put : List Cond := .code y_M_put b_M_put 3 none :: sr_T
abbrev b_M_write : ByteArray := prog_12_method_25_code
def y_M_write : MethodName := ⟨R_M, "write", "(II)V"⟩
def w_M_write : List Cond := .code y_M_write b_M_write 3 none :: sr_T
abbrev b_M_see : ByteArray := prog_12_method_26_code
def y_M_see : MethodName := ⟨R_M, "see", "(II)I"⟩
def w_M_see : List Cond := .code y_M_see b_M_see 3 (some .int) :: sr_T
abbrev b_M_store : ByteArray := prog_12_method_27_code
def y_M_store : MethodName := ⟨R_M, "store", "(III)V"⟩
def w_M_store : List Cond := .code y_M_store b_M_store 4 none :: sr_T
abbrev b_M_active : ByteArray := prog_12_method_28_code
def y_M_active : MethodName := ⟨R_M, "active", "(I)Z"⟩
def w_M_active : List Cond := .code y_M_active b_M_active 2 (some .boolean) :: sr_T
abbrev b_M_then : ByteArray := prog_12_method_29_code
def y_M_then : MethodName := ⟨R_M, "then", "(III)V"⟩
def w_M_then : List Cond := .code y_M_then b_M_then 4 none :: sr_T
abbrev b_M_setLinks : ByteArray := prog_12_method_30_code
def y_M_setLinks : MethodName := ⟨R_M, "setLinks", "(IZ)V"⟩
def w_M_setLinks : List Cond := .code y_M_setLinks b_M_setLinks 5 none :: sr_T
abbrev b_M_skip : ByteArray := prog_12_method_31_code
def y_M_skip : MethodName := ⟨R_M, "skip", "(I)V"⟩
def w_M_skip : List Cond := .code y_M_skip b_M_skip 2 none :: sr_T
abbrev b_M_carry : ByteArray := prog_12_method_32_code
def y_M_carry : MethodName := ⟨R_M, "carry", "(II)V"⟩
def w_M_carry : List Cond := .code y_M_carry b_M_carry 4 none :: sr_T
abbrev b_M_complete : ByteArray := prog_12_method_34_code
def y_M_complete : MethodName := ⟨R_M, "complete", "(I)V"⟩
def w_M_complete : List Cond := .code y_M_complete b_M_complete 4 none :: sr_T
abbrev b_M_bodyDone : ByteArray := prog_12_method_36_code
def y_M_bodyDone : MethodName := ⟨R_M, "bodyDone", "(I)V"⟩
def w_M_bodyDone : List Cond := .code y_M_bodyDone b_M_bodyDone 4 none :: sr_T
abbrev b_M_report : ByteArray := prog_12_method_35_code
def y_M_report : MethodName := ⟨R_M, "report", "(I)V"⟩
def w_M_report : List Cond := .code y_M_report b_M_report 5 none :: sr_T
abbrev b_M_faults : ByteArray := prog_12_method_37_code
def y_M_faults : MethodName := ⟨R_M, "faults", "(II)V"⟩
def w_M_faults : List Cond := .code y_M_faults b_M_faults 6 none :: sr_T
abbrev b_M_fails : ByteArray := prog_12_method_38_code
def y_M_fails : MethodName := ⟨R_M, "fails", "(II)V"⟩
def w_M_fails : List Cond := .code y_M_fails b_M_fails 4 none :: sr_T
abbrev b_M_settle : ByteArray := prog_12_method_33_code
def y_M_settle : MethodName := ⟨R_M, "settle", "()V"⟩
def w_M_settle : List Cond := .code y_M_settle b_M_settle 3 none :: sr_T
abbrev b_M_canStep : ByteArray := prog_12_method_39_code
def y_M_canStep : MethodName := ⟨R_M, "canStep", "(I)Z"⟩
def w_M_canStep : List Cond := .code y_M_canStep b_M_canStep 3 (some .boolean) :: sr_T
abbrev b_M_stepper : ByteArray := prog_12_method_40_code
def y_M_stepper : MethodName := ⟨R_M, "stepper", "()I"⟩
def w_M_stepper : List Cond := .code y_M_stepper b_M_stepper 2 (some .int) :: sr_T
abbrev b_M_take : ByteArray := prog_12_method_48_code
def y_M_take : MethodName := ⟨R_M, "take", "(II)V"⟩
def w_M_take : List Cond := .code y_M_take b_M_take 6 none :: sr_T
abbrev b_M_undo : ByteArray := prog_12_method_47_code
def y_M_undo : MethodName := ⟨R_M, "undo", "(I)V"⟩
def w_M_undo : List Cond := .code y_M_undo b_M_undo 6 none :: sr_T
abbrev b_M_loop : ByteArray := prog_12_method_46_code
def y_M_loop : MethodName := ⟨R_M, "loop", "(I)V"⟩
def w_M_loop : List Cond := .code y_M_loop b_M_loop 3 none :: sr_T
abbrev b_M_joined : ByteArray := prog_12_method_42_code
def y_M_joined : MethodName := ⟨R_M, "joined", "(I)Z"⟩
def w_M_joined : List Cond := .code y_M_joined b_M_joined 5 (some .boolean) :: sr_T
abbrev b_M_waiting : ByteArray := prog_12_method_44_code
def y_M_waiting : MethodName := ⟨R_M, "waiting", "(I)I"⟩
def w_M_waiting : List Cond := .code y_M_waiting b_M_waiting 3 (some .int) :: sr_T
abbrev b_M_simple : ByteArray := prog_12_method_43_code
def y_M_simple : MethodName := ⟨R_M, "simple", "(I)V"⟩
def w_M_simple : List Cond := .code y_M_simple b_M_simple 3 none :: sr_T
abbrev b_M_open : ByteArray := prog_12_method_45_code
def y_M_open : MethodName := ⟨R_M, "open", "(I)V"⟩
def w_M_open : List Cond := .code y_M_open b_M_open 7 none :: sr_T
abbrev b_M_step : ByteArray := prog_12_method_41_code
def y_M_step : MethodName := ⟨R_M, "step", "(I)V"⟩
def w_M_step : List Cond := .code y_M_step b_M_step 2 none :: sr_T
abbrev b_M_message : ByteArray := prog_12_method_49_code
def y_M_message : MethodName := ⟨R_M, "message", "(III)I"⟩
def w_M_message : List Cond := .code y_M_message b_M_message 6 (some .int) :: sr_T
abbrev b_M_run : ByteArray := prog_12_method_50_code
def y_M_run : MethodName := ⟨R_M, "run", "(II)I"⟩
def w_M_run : List Cond := .code y_M_run b_M_run 5 (some .int) :: sr_T
abbrev b_M_answer : ByteArray := prog_12_method_51_code
def y_M_answer : MethodName := ⟨R_M, "answer", "(IIII)Z"⟩
def w_M_answer : List Cond := .code y_M_answer b_M_answer 5 (some .boolean) :: sr_T
abbrev b_M_terminate : ByteArray := prog_12_method_52_code
def y_M_terminate : MethodName := ⟨R_M, "terminate", "(I)Z"⟩
def w_M_terminate : List Cond := .code y_M_terminate b_M_terminate 3 (some .boolean) :: sr_T
abbrev b_M_state : ByteArray := prog_12_method_53_code
def y_M_state : MethodName := ⟨R_M, "state", "(I)I"⟩
def w_M_state : List Cond := .code y_M_state b_M_state 2 (some .int) :: sr_T
abbrev b_M_status : ByteArray := prog_12_method_54_code
def y_M_status : MethodName := ⟨R_M, "status", "(II)I"⟩
def w_M_status : List Cond := .code y_M_status b_M_status 3 (some .int) :: sr_T
abbrev b_M_variable : ByteArray := prog_12_method_55_code
def y_M_variable : MethodName := ⟨R_M, "variable", "(II)I"⟩
def w_M_variable : List Cond := .code y_M_variable b_M_variable 3 (some .int) :: sr_T
abbrev b_M_isScope : ByteArray := prog_12_method_56_code
def y_M_isScope : MethodName := ⟨R_M, "isScope", "(II)Z"⟩
def w_M_isScope : List Cond := .code y_M_isScope b_M_isScope 3 (some .boolean) :: sr_T
abbrev b_M_own : ByteArray := prog_12_method_57_code
def y_M_own : MethodName := ⟨R_M, "own", "(II)I"⟩
def w_M_own : List Cond := .code y_M_own b_M_own 3 (some .int) :: sr_T
abbrev b_M_linkState : ByteArray := prog_12_method_58_code
def y_M_linkState : MethodName := ⟨R_M, "linkState", "(II)I"⟩
def w_M_linkState : List Cond := .code y_M_linkState b_M_linkState 3 (some .int) :: sr_T
abbrev b_M_kept : ByteArray := prog_12_method_59_code
def y_M_kept : MethodName := ⟨R_M, "kept", "(II)I"⟩
def w_M_kept : List Cond := .code y_M_kept b_M_kept 5 (some .int) :: sr_T
abbrev b_M_events : ByteArray := prog_12_method_60_code
def y_M_events : MethodName := ⟨R_M, "events", "(I)I"⟩
def w_M_events : List Cond := .code y_M_events b_M_events 2 (some .int) :: sr_T
abbrev b_M_event : ByteArray := prog_12_method_61_code
def y_M_event : MethodName := ⟨R_M, "event", "(II)I"⟩
def w_M_event : List Cond := .code y_M_event b_M_event 3 (some .int) :: sr_T
abbrev b_M_next : ByteArray := prog_12_method_62_code
def y_M_next : MethodName := ⟨R_M, "next", "(I)I"⟩
def w_M_next : List Cond := .code y_M_next b_M_next 2 (some .int) :: sr_T
abbrev b_R_childrenAreRight : ByteArray := prog_8_method_3_code
def y_R_childrenAreRight : MethodName := ⟨R_R, "childrenAreRight", "()Z"⟩
def w_R_childrenAreRight : List Cond := .code y_R_childrenAreRight b_R_childrenAreRight 2 (some .boolean) :: sr_T
abbrev b_R_handlersAreFlat : ByteArray := prog_8_method_5_code
def y_R_handlersAreFlat : MethodName := ⟨R_R, "handlersAreFlat", "()Z"⟩
def w_R_handlersAreFlat : List Cond := .code y_R_handlersAreFlat b_R_handlersAreFlat 2 (some .boolean) :: sr_T
abbrev b_R_handlerKindsAreInside : ByteArray := prog_8_method_6_code
def y_R_handlerKindsAreInside : MethodName := ⟨R_R, "handlerKindsAreInside", "()Z"⟩
def w_R_handlerKindsAreInside : List Cond := .code y_R_handlerKindsAreInside b_R_handlerKindsAreInside 5 (some .boolean) :: sr_T
abbrev b_R_isInHandlersFlow : ByteArray := prog_8_method_8_code
def y_R_isInHandlersFlow : MethodName := ⟨R_R, "isInHandlersFlow", "(I)Z"⟩
def w_R_isInHandlersFlow : List Cond := .code y_R_isInHandlersFlow b_R_isInHandlersFlow 3 (some .boolean) :: sr_T
abbrev b_R_mayUndo : ByteArray := prog_8_method_9_code
def y_R_mayUndo : MethodName := ⟨R_R, "mayUndo", "(II)Z"⟩
def w_R_mayUndo : List Cond := .code y_R_mayUndo b_R_mayUndo 3 (some .boolean) :: sr_T
abbrev b_R_compensatesAreRight : ByteArray := prog_8_method_7_code
def y_R_compensatesAreRight : MethodName := ⟨R_R, "compensatesAreRight", "()Z"⟩
def w_R_compensatesAreRight : List Cond := .code y_R_compensatesAreRight b_R_compensatesAreRight 2 (some .boolean) :: sr_T
abbrev b_R_nearestAbove : ByteArray := prog_8_method_12_code
def y_R_nearestAbove : MethodName := ⟨R_R, "nearestAbove", "(II)I"⟩
def w_R_nearestAbove : List Cond := .code y_R_nearestAbove b_R_nearestAbove 4 (some .int) :: sr_T
abbrev b_R_mayReach : ByteArray := prog_8_method_13_code
def y_R_mayReach : MethodName := ⟨R_R, "mayReach", "(II)Z"⟩
def w_R_mayReach : List Cond := .code y_R_mayReach b_R_mayReach 5 (some .boolean) :: sr_T
abbrev b_R_linkIsRight : ByteArray := prog_8_method_11_code
def y_R_linkIsRight : MethodName := ⟨R_R, "linkIsRight", "(II)Z"⟩
def w_R_linkIsRight : List Cond := .code y_R_linkIsRight b_R_linkIsRight 4 (some .boolean) :: sr_T
abbrev b_R_linksAreRight : ByteArray := prog_8_method_10_code
def y_R_linksAreRight : MethodName := ⟨R_R, "linksAreRight", "()Z"⟩
def w_R_linksAreRight : List Cond := .code y_R_linksAreRight b_R_linksAreRight 2 (some .boolean) :: sr_T
abbrev b_R_noteNextInSequence : ByteArray := prog_8_method_16_code
def y_R_noteNextInSequence : MethodName := ⟨R_R, "noteNextInSequence", "(II)V"⟩
def w_R_noteNextInSequence : List Cond := .code y_R_noteNextInSequence b_R_noteNextInSequence 5 none :: sr_T
abbrev b_R_noteTree : ByteArray := prog_8_method_15_code
def y_R_noteTree : MethodName := ⟨R_R, "noteTree", "()V"⟩
def w_R_noteTree : List Cond := .code y_R_noteTree b_R_noteTree 3 none :: sr_T
abbrev b_R_noteLinks : ByteArray := prog_8_method_17_code
def y_R_noteLinks : MethodName := ⟨R_R, "noteLinks", "()V"⟩
def w_R_noteLinks : List Cond := .code y_R_noteLinks b_R_noteLinks 2 none :: sr_T
abbrev b_R_withoutFirst : ByteArray := prog_8_method_18_code
def y_R_withoutFirst : MethodName := ⟨R_R, "withoutFirst", "(J)J"⟩
def w_R_withoutFirst : List Cond := .code y_R_withoutFirst b_R_withoutFirst 6 (some .long) :: sr_T
abbrev b_R_orderIsRight : ByteArray := prog_8_method_14_code
def y_R_orderIsRight : MethodName := ⟨R_R, "orderIsRight", "()Z"⟩
def w_R_orderIsRight : List Cond := .code y_R_orderIsRight b_R_orderIsRight 5 (some .boolean) :: sr_T
abbrev b_R_startIsRight : ByteArray := prog_8_method_22_code
def y_R_startIsRight : MethodName := ⟨R_R, "startIsRight", "()Z"⟩
def w_R_startIsRight : List Cond := .code y_R_startIsRight b_R_startIsRight 3 (some .boolean) :: sr_T
abbrev b_R_leastBroken : ByteArray := prog_8_method_2_code
def y_R_leastBroken : MethodName := ⟨R_R, "leastBroken", "()I"⟩
def w_R_leastBroken : List Cond := .code y_R_leastBroken b_R_leastBroken 1 (some .int) :: sr_T
abbrev b_E_areUsedUp : ByteArray := prog_2_method_2_code
def y_E_areUsedUp : MethodName := ⟨R_E, "areUsedUp", "()Z"⟩
def w_E_areUsedUp : List Cond := .code y_E_areUsedUp b_E_areUsedUp 1 (some .boolean) :: sr_T
abbrev b_E_moveAll : ByteArray := prog_2_method_7_code
def y_E_moveAll : MethodName := ⟨R_E, "moveAll", "(II)V"⟩
def w_E_moveAll : List Cond := .code y_E_moveAll b_E_moveAll 4 none :: sr_T
abbrev b_E_make : ByteArray := prog_2_method_3_code
def y_E_make : MethodName := ⟨R_E, "make", "(III)V"⟩
def w_E_make : List Cond := .code y_E_make b_E_make 4 none :: sr_T
abbrev b_E_latestIn : ByteArray := prog_2_method_4_code
def y_E_latestIn : MethodName := ⟨R_E, "latestIn", "(II)I"⟩
def w_E_latestIn : List Cond := .code y_E_latestIn b_E_latestIn 4 (some .int) :: sr_T
abbrev b_E_clear : ByteArray := prog_2_method_6_code
def y_E_clear : MethodName := ⟨R_E, "clear", "(I)V"⟩
def w_E_clear : List Cond := .code y_E_clear b_E_clear 2 none :: sr_T
abbrev b_E_handBack : ByteArray := prog_2_method_5_code
def y_E_handBack : MethodName := ⟨R_E, "handBack", "(I)V"⟩
def w_E_handBack : List Cond := .code y_E_handBack b_E_handBack 2 none :: sr_T
abbrev b_E_gather : ByteArray := prog_2_method_8_code
def y_E_gather : MethodName := ⟨R_E, "gather", "(II)V"⟩
def w_E_gather : List Cond := .code y_E_gather b_E_gather 5 none :: sr_T
abbrev b_E_countIn : ByteArray := prog_2_method_9_code
def y_E_countIn : MethodName := ⟨R_E, "countIn", "(I)I"⟩
def w_E_countIn : List Cond := .code y_E_countIn b_E_countIn 4 (some .int) :: sr_T
abbrev b_G_write : ByteArray := prog_3_method_2_code
def y_G_write : MethodName := ⟨R_G, "write", "(II)V"⟩
def w_G_write : List Cond := .code y_G_write b_G_write 3 none :: sr_T
abbrev b_G_before : ByteArray := prog_3_method_3_code
def y_G_before : MethodName := ⟨R_G, "before", "(I)I"⟩
def w_G_before : List Cond := .code y_G_before b_G_before 2 (some .int) :: sr_T
abbrev b_L_countTo : ByteArray := prog_6_method_2_code
def y_L_countTo : MethodName := ⟨R_L, "countTo", "(II)I"⟩
def w_L_countTo : List Cond := .code y_L_countTo b_L_countTo 5 (some .int) :: sr_T
abbrev b_L_areSetTo : ByteArray := prog_6_method_3_code
def y_L_areSetTo : MethodName := ⟨R_L, "areSetTo", "(I)Z"⟩
def w_L_areSetTo : List Cond := .code y_L_areSetTo b_L_areSetTo 2 (some .boolean) :: sr_T
abbrev b_I_canStep : ByteArray := prog_4_method_3_code
def y_I_canStep : MethodName := ⟨R_I, "canStep", "(I)Z"⟩
def w_I_canStep : List Cond := .code y_I_canStep b_I_canStep 2 (some .boolean) :: sr_T
abbrev b_I_nextToStep : ByteArray := prog_4_method_2_code
def y_I_nextToStep : MethodName := ⟨R_I, "nextToStep", "()I"⟩
def w_I_nextToStep : List Cond := .code y_I_nextToStep b_I_nextToStep 2 (some .int) :: sr_T
abbrev b_V_read : ByteArray := prog_10_method_2_code
def y_V_read : MethodName := ⟨R_V, "read", "(II)I"⟩
def w_V_read : List Cond := .code y_V_read b_V_read 4 (some .int) :: sr_T
abbrev b_I_conditionHolds : ByteArray := prog_4_method_21_code
def y_I_conditionHolds : MethodName := ⟨R_I, "conditionHolds", "(I)Z"⟩
def w_I_conditionHolds : List Cond := .code y_I_conditionHolds b_I_conditionHolds 2 (some .boolean) :: sr_T
abbrev b_L_unsetFrom : ByteArray := prog_6_method_7_code
def y_L_unsetFrom : MethodName := ⟨R_L, "unsetFrom", "(I)V"⟩
def w_L_unsetFrom : List Cond := .code y_L_unsetFrom b_L_unsetFrom 3 none :: sr_T
abbrev b_I_renew : ByteArray := prog_4_method_23_code
def y_I_renew : MethodName := ⟨R_I, "renew", "(I)V"⟩
def w_I_renew : List Cond := .code y_I_renew b_I_renew 3 none :: sr_T
abbrev b_I_completes : ByteArray := prog_4_method_10_code
def y_I_completes : MethodName := ⟨R_I, "completes", "(I)V"⟩
def w_I_completes : List Cond := .code y_I_completes b_I_completes 2 none :: sr_T
abbrev b_I_openOrComplete : ByteArray := prog_4_method_31_code
def y_I_openOrComplete : MethodName := ⟨R_I, "openOrComplete", "(II)V"⟩
def w_I_openOrComplete : List Cond := .code y_I_openOrComplete b_I_openOrComplete 3 none :: sr_T
abbrev b_I_loop : ByteArray := prog_4_method_22_code
def y_I_loop : MethodName := ⟨R_I, "loop", "(I)V"⟩
def w_I_loop : List Cond := .code y_I_loop b_I_loop 2 none :: sr_T
abbrev b_I_becomeUndoer : ByteArray := prog_4_method_25_code
def y_I_becomeUndoer : MethodName := ⟨R_I, "becomeUndoer", "(II)V"⟩
def w_I_becomeUndoer : List Cond := .code y_I_becomeUndoer b_I_becomeUndoer 3 none :: sr_T
abbrev b_I_undo : ByteArray := prog_4_method_27_code
def y_I_undo : MethodName := ⟨R_I, "undo", "(II)V"⟩
def w_I_undo : List Cond := .code y_I_undo b_I_undo 5 none :: sr_T
abbrev b_I_become : ByteArray := prog_4_method_9_code
def y_I_become : MethodName := ⟨R_I, "become", "(III)V"⟩
def w_I_become : List Cond := .code y_I_become b_I_become 4 none :: sr_T
abbrev b_I_endUndo : ByteArray := prog_4_method_28_code
def y_I_endUndo : MethodName := ⟨R_I, "endUndo", "(III)V"⟩
def w_I_endUndo : List Cond := .code y_I_endUndo b_I_endUndo 4 none :: sr_T
abbrev b_I_faults : ByteArray := prog_4_method_12_code
def y_I_faults : MethodName := ⟨R_I, "faults", "(II)V"⟩
def w_I_faults : List Cond := .code y_I_faults b_I_faults 3 none :: sr_T
abbrev b_I_undoLatest : ByteArray := prog_4_method_26_code
def y_I_undoLatest : MethodName := ⟨R_I, "undoLatest", "(I)V"⟩
def w_I_undoLatest : List Cond := .code y_I_undoLatest b_I_undoLatest 5 none :: sr_T
abbrev b_L_joinHoldsAt : ByteArray := prog_6_method_4_code
def y_L_joinHoldsAt : MethodName := ⟨R_L, "joinHoldsAt", "(I)Z"⟩
def w_L_joinHoldsAt : List Cond := .code y_L_joinHoldsAt b_L_joinHoldsAt 3 (some .boolean) :: sr_T
abbrev b_V_write : ByteArray := prog_10_method_3_code
def y_V_write : MethodName := ⟨R_V, "write", "(III)V"⟩
def w_V_write : List Cond := .code y_V_write b_V_write 5 none :: sr_T
abbrev b_I_waitingReceive : ByteArray := prog_4_method_8_code
def y_I_waitingReceive : MethodName := ⟨R_I, "waitingReceive", "(I)I"⟩
def w_I_waitingReceive : List Cond := .code y_I_waitingReceive b_I_waitingReceive 3 (some .int) :: sr_T
abbrev b_I_beginReceive : ByteArray := prog_4_method_18_code
def y_I_beginReceive : MethodName := ⟨R_I, "beginReceive", "(I)V"⟩
def w_I_beginReceive : List Cond := .code y_I_beginReceive b_I_beginReceive 2 none :: sr_T
abbrev b_I_beginFlow : ByteArray := prog_4_method_19_code
def y_I_beginFlow : MethodName := ⟨R_I, "beginFlow", "(I)V"⟩
def w_I_beginFlow : List Cond := .code y_I_beginFlow b_I_beginFlow 3 none :: sr_T
abbrev b_L_closeFrom : ByteArray := prog_6_method_6_code
def y_L_closeFrom : MethodName := ⟨R_L, "closeFrom", "(I)V"⟩
def w_L_closeFrom : List Cond := .code y_L_closeFrom b_L_closeFrom 3 none :: sr_T
abbrev b_I_skip : ByteArray := prog_4_method_16_code
def y_I_skip : MethodName := ⟨R_I, "skip", "(I)V"⟩
def w_I_skip : List Cond := .code y_I_skip b_I_skip 2 none :: sr_T
abbrev b_I_beginIf : ByteArray := prog_4_method_20_code
def y_I_beginIf : MethodName := ⟨R_I, "beginIf", "(I)V"⟩
def w_I_beginIf : List Cond := .code y_I_beginIf b_I_beginIf 7 none :: sr_T
abbrev b_I_beginScope : ByteArray := prog_4_method_24_code
def y_I_beginScope : MethodName := ⟨R_I, "beginScope", "(I)V"⟩
def w_I_beginScope : List Cond := .code y_I_beginScope b_I_beginScope 2 none :: sr_T
abbrev b_I_begin : ByteArray := prog_4_method_17_code
def y_I_begin : MethodName := ⟨R_I, "begin", "(I)V"⟩
def w_I_begin : List Cond := .code y_I_begin b_I_begin 4 none :: sr_T
abbrev b_I_reports : ByteArray := prog_4_method_11_code
def y_I_reports : MethodName := ⟨R_I, "reports", "(I)V"⟩
def w_I_reports : List Cond := .code y_I_reports b_I_reports 2 none :: sr_T
abbrev b_I_missJoin : ByteArray := prog_4_method_15_code
def y_I_missJoin : MethodName := ⟨R_I, "missJoin", "(I)V"⟩
def w_I_missJoin : List Cond := .code y_I_missJoin b_I_missJoin 2 none :: sr_T
abbrev b_L_decideFrom : ByteArray := prog_6_method_5_code
def y_L_decideFrom : MethodName := ⟨R_L, "decideFrom", "(ILScopeRunner$Variables;)V"⟩
def w_L_decideFrom : List Cond := .code y_L_decideFrom b_L_decideFrom 6 none :: sr_T
abbrev b_I_complete : ByteArray := prog_4_method_29_code
def y_I_complete : MethodName := ⟨R_I, "complete", "(I)V"⟩
def w_I_complete : List Cond := .code y_I_complete b_I_complete 2 none :: sr_T
abbrev b_I_endBody : ByteArray := prog_4_method_33_code
def y_I_endBody : MethodName := ⟨R_I, "endBody", "(II)V"⟩
def w_I_endBody : List Cond := .code y_I_endBody b_I_endBody 3 none :: sr_T
abbrev b_I_allChildrenEnded : ByteArray := prog_4_method_32_code
def y_I_allChildrenEnded : MethodName := ⟨R_I, "allChildrenEnded", "(I)Z"⟩
def w_I_allChildrenEnded : List Cond := .code y_I_allChildrenEnded b_I_allChildrenEnded 4 (some .boolean) :: sr_T
abbrev b_I_report : ByteArray := prog_4_method_30_code
def y_I_report : MethodName := ⟨R_I, "report", "(I)V"⟩
def w_I_report : List Cond := .code y_I_report b_I_report 3 none :: sr_T
abbrev b_I_endWithin : ByteArray := prog_4_method_35_code
def y_I_endWithin : MethodName := ⟨R_I, "endWithin", "(I)I"⟩
def w_I_endWithin : List Cond := .code y_I_endWithin b_I_endWithin 4 (some .int) :: sr_T
abbrev b_I_entryFails : ByteArray := prog_4_method_13_code
def y_I_entryFails : MethodName := ⟨R_I, "entryFails", "(II)V"⟩
def w_I_entryFails : List Cond := .code y_I_entryFails b_I_entryFails 3 none :: sr_T
abbrev b_I_takeFault : ByteArray := prog_4_method_36_code
def y_I_takeFault : MethodName := ⟨R_I, "takeFault", "(II)V"⟩
def w_I_takeFault : List Cond := .code y_I_takeFault b_I_takeFault 5 none :: sr_T
abbrev b_I_fault : ByteArray := prog_4_method_34_code
def y_I_fault : MethodName := ⟨R_I, "fault", "(II)V"⟩
def w_I_fault : List Cond := .code y_I_fault b_I_fault 6 none :: sr_T
abbrev b_I_failEntry : ByteArray := prog_4_method_37_code
def y_I_failEntry : MethodName := ⟨R_I, "failEntry", "(II)V"⟩
def w_I_failEntry : List Cond := .code y_I_failEntry b_I_failEntry 4 none :: sr_T
abbrev b_I_settle : ByteArray := prog_4_method_14_code
def y_I_settle : MethodName := ⟨R_I, "settle", "()V"⟩
def w_I_settle : List Cond := .code y_I_settle b_I_settle 3 none :: sr_T
abbrev b_I_makeStep : ByteArray := prog_4_method_4_code
def y_I_makeStep : MethodName := ⟨R_I, "makeStep", "()Z"⟩
def w_I_makeStep : List Cond := .code y_I_makeStep b_I_makeStep 2 (some .boolean) :: sr_T
abbrev b_I_takeMessage : ByteArray := prog_4_method_5_code
def y_I_takeMessage : MethodName := ⟨R_I, "takeMessage", "(II)Z"⟩
def w_I_takeMessage : List Cond := .code y_I_takeMessage b_I_takeMessage 4 (some .boolean) :: sr_T
abbrev b_I_takeAnswer : ByteArray := prog_4_method_6_code
def y_I_takeAnswer : MethodName := ⟨R_I, "takeAnswer", "(III)Z"⟩
def w_I_takeAnswer : List Cond := .code y_I_takeAnswer b_I_takeAnswer 4 (some .boolean) :: sr_T
abbrev b_I_endNow : ByteArray := prog_4_method_7_code
def y_I_endNow : MethodName := ⟨R_I, "endNow", "()Z"⟩
def w_I_endNow : List Cond := .code y_I_endNow b_I_endNow 1 (some .boolean) :: sr_T
